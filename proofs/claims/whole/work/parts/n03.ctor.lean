/-! the machine makes both objects; laid by math/gen_n03.py -/
section CTR
variable {L : Nat} {xs : Nat → Int32}
theorem hb_id {j m : Nat} (hj : j ≤ NEV) (e : idN j = m) : (hb L xs j).1 = m := (hb_I (L := L) (xs := xs) j hj).1.1.trans e
theorem hb_T {j o t : Nat} (hj : j ≤ NEV) (h1 : o < idN j) (h2 : tT0.getD o 99 = t) : hT (hb L xs j) o = t := ((hb_I (L := L) (xs := xs) j hj).2.1.1 o h1).trans h2
theorem hb_R {j o b q : Nat} (hj : j ≤ NEV) (h1 : (1, o, b, q) ∈ EVS.take j) : hR (hb L xs j) o b = some q := ((hb_I (L := L) (xs := xs) j hj).2.2.2.1 _ h1 rfl).1
theorem hb_new {j t n : Nat} (hj : j < NEV) (e : EVS.getD j (0, 0, 0, 0) = (0, t, n, 0)) : hnew (hb L xs j) t n (fun _ => 0) = hb L xs (j + 1) := by rw [hb_s hj, e]; rfl
theorem hb_put {j o b q : Nat} (hj : j < NEV) (e : EVS.getD j (0, 0, 0, 0) = (1, o, b, q)) : hsR (hb L xs j) o b (some q) = hb L xs (j + 1) := by rw [hb_s hj, e]; rfl
theorem hb_int {j o b : Nat} (hj : j < NEV) (e : EVS.getD j (0, 0, 0, 0) = (2, o, b, 0)) : hsI (hb L xs j) o b (-1) = hb L xs (j + 1) := by rw [hb_s hj, e]; rfl
theorem f0_0 : fetch 0 0 = some (.aload_n 0, 0, 0, 0) := rfl
theorem f0_1 : fetch 0 1 = some (.invokespecial 3, 0, 0, 5) := rfl
theorem f0_4 : fetch 0 4 = some (.aload_n 0, 0, 0, 0) := rfl
theorem f0_5 : fetch 0 5 = some (.bipush 40, 0, 0, 0) := rfl
theorem f0_7 : fetch 0 7 = some (.newarray .int, 20, 0, 0) := rfl
theorem f0_9 : fetch 0 9 = some (.putfield 9, 0, 5, 2) := rfl
theorem f0_12 : fetch 0 12 = some (.aload_n 0, 0, 0, 0) := rfl
theorem f0_13 : fetch 0 13 = some (.bipush 32, 0, 0, 0) := rfl
theorem f0_15 : fetch 0 15 = some (.newarray .int, 20, 0, 0) := rfl
theorem f0_17 : fetch 0 17 = some (.putfield 15, 0, 6, 2) := rfl
theorem f0_20 : fetch 0 20 = some (.aload_n 0, 0, 0, 0) := rfl
theorem f0_21 : fetch 0 21 = some (.sipush 400, 0, 0, 0) := rfl
theorem f0_24 : fetch 0 24 = some (.anewarray 18, 27, 0, 0) := rfl
theorem f0_27 : fetch 0 27 = some (.putfield 20, 0, 7, 2) := rfl
theorem f0_30 : fetch 0 30 = some (.aload_n 0, 0, 0, 0) := rfl
theorem f0_31 : fetch 0 31 = some (.sipush 200, 0, 0, 0) := rfl
theorem f0_34 : fetch 0 34 = some (.anewarray 18, 27, 0, 0) := rfl
theorem f0_37 : fetch 0 37 = some (.putfield 24, 0, 8, 2) := rfl
theorem f0_40 : fetch 0 40 = some (.aload_n 0, 0, 0, 0) := rfl
theorem f0_41 : fetch 0 41 = some (.sipush 200, 0, 0, 0) := rfl
theorem f0_44 : fetch 0 44 = some (.anewarray 18, 27, 0, 0) := rfl
theorem f0_47 : fetch 0 47 = some (.putfield 27, 0, 9, 2) := rfl
theorem f0_50 : fetch 0 50 = some (.aload_n 0, 0, 0, 0) := rfl
theorem f0_51 : fetch 0 51 = some (.sipush 200, 0, 0, 0) := rfl
theorem f0_54 : fetch 0 54 = some (.newarray .long, 23, 0, 0) := rfl
theorem f0_56 : fetch 0 56 = some (.putfield 30, 0, 10, 2) := rfl
theorem f0_59 : fetch 0 59 = some (.return_, 0, 0, 0) := rfl
theorem f29_0 : fetch 29 0 = some (.aload_n 0, 0, 0, 0) := rfl
theorem f29_1 : fetch 29 1 = some (.invokespecial 3, 0, 0, 5) := rfl
theorem f29_4 : fetch 29 4 = some (.aload_n 0, 0, 0, 0) := rfl
theorem f29_5 : fetch 29 5 = some (.bipush 12, 0, 0, 0) := rfl
theorem f29_7 : fetch 29 7 = some (.newarray .int, 20, 0, 0) := rfl
theorem f29_9 : fetch 29 9 = some (.putfield 9, 2, 7, 2) := rfl
theorem f29_12 : fetch 29 12 = some (.aload_n 0, 0, 0, 0) := rfl
theorem f29_13 : fetch 29 13 = some (.bipush 12, 0, 0, 0) := rfl
theorem f29_15 : fetch 29 15 = some (.newarray .int, 20, 0, 0) := rfl
theorem f29_17 : fetch 29 17 = some (.putfield 15, 2, 8, 2) := rfl
theorem f29_20 : fetch 29 20 = some (.aload_n 0, 0, 0, 0) := rfl
theorem f29_21 : fetch 29 21 = some (.bipush 12, 0, 0, 0) := rfl
theorem f29_23 : fetch 29 23 = some (.newarray .int, 20, 0, 0) := rfl
theorem f29_25 : fetch 29 25 = some (.putfield 18, 2, 9, 2) := rfl
theorem f29_28 : fetch 29 28 = some (.aload_n 0, 0, 0, 0) := rfl
theorem f29_29 : fetch 29 29 = some (.sipush 400, 0, 0, 0) := rfl
theorem f29_32 : fetch 29 32 = some (.newarray .int, 20, 0, 0) := rfl
theorem f29_34 : fetch 29 34 = some (.putfield 21, 2, 10, 2) := rfl
theorem f29_37 : fetch 29 37 = some (.aload_n 0, 0, 0, 0) := rfl
theorem f29_38 : fetch 29 38 = some (.aload_n 1, 0, 0, 0) := rfl
theorem f29_39 : fetch 29 39 = some (.getfield 24, 10, 3, 2) := rfl
theorem f29_42 : fetch 29 42 = some (.putfield 29, 2, 0, 2) := rfl
theorem f29_45 : fetch 29 45 = some (.aload_n 0, 0, 0, 0) := rfl
theorem f29_46 : fetch 29 46 = some (.aload_n 1, 0, 0, 0) := rfl
theorem f29_47 : fetch 29 47 = some (.getfield 30, 10, 4, 2) := rfl
theorem f29_50 : fetch 29 50 = some (.putfield 33, 2, 1, 2) := rfl
theorem f29_53 : fetch 29 53 = some (.return_, 0, 0, 0) := rfl
theorem f42_0 : fetch 42 0 = some (.aload_n 0, 0, 0, 0) := rfl
theorem f42_1 : fetch 42 1 = some (.invokespecial 3, 0, 0, 5) := rfl
theorem f42_4 : fetch 42 4 = some (.aload_n 0, 0, 0, 0) := rfl
theorem f42_5 : fetch 42 5 = some (.bipush 8, 0, 0, 0) := rfl
theorem f42_7 : fetch 42 7 = some (.newarray .int, 20, 0, 0) := rfl
theorem f42_9 : fetch 42 9 = some (.putfield 9, 3, 5, 2) := rfl
theorem f42_12 : fetch 42 12 = some (.aload_n 0, 0, 0, 0) := rfl
theorem f42_13 : fetch 42 13 = some (.bipush 8, 0, 0, 0) := rfl
theorem f42_15 : fetch 42 15 = some (.newarray .int, 20, 0, 0) := rfl
theorem f42_17 : fetch 42 17 = some (.putfield 15, 3, 6, 2) := rfl
theorem f42_20 : fetch 42 20 = some (.aload_n 0, 0, 0, 0) := rfl
theorem f42_21 : fetch 42 21 = some (.bipush 8, 0, 0, 0) := rfl
theorem f42_23 : fetch 42 23 = some (.newarray .int, 20, 0, 0) := rfl
theorem f42_25 : fetch 42 25 = some (.putfield 18, 3, 7, 2) := rfl
theorem f42_28 : fetch 42 28 = some (.aload_n 0, 0, 0, 0) := rfl
theorem f42_29 : fetch 42 29 = some (.bipush 8, 0, 0, 0) := rfl
theorem f42_31 : fetch 42 31 = some (.newarray .int, 20, 0, 0) := rfl
theorem f42_33 : fetch 42 33 = some (.putfield 21, 3, 8, 2) := rfl
theorem f42_36 : fetch 42 36 = some (.aload_n 0, 0, 0, 0) := rfl
theorem f42_37 : fetch 42 37 = some (.bipush 9, 0, 0, 0) := rfl
theorem f42_39 : fetch 42 39 = some (.newarray .int, 20, 0, 0) := rfl
theorem f42_41 : fetch 42 41 = some (.putfield 24, 3, 9, 2) := rfl
theorem f42_44 : fetch 42 44 = some (.aload_n 0, 0, 0, 0) := rfl
theorem f42_45 : fetch 42 45 = some (.bipush 8, 0, 0, 0) := rfl
theorem f42_47 : fetch 42 47 = some (.newarray .int, 20, 0, 0) := rfl
theorem f42_49 : fetch 42 49 = some (.putfield 27, 3, 10, 2) := rfl
theorem f42_52 : fetch 42 52 = some (.aload_n 0, 0, 0, 0) := rfl
theorem f42_53 : fetch 42 53 = some (.bipush 8, 0, 0, 0) := rfl
theorem f42_55 : fetch 42 55 = some (.newarray .int, 20, 0, 0) := rfl
theorem f42_57 : fetch 42 57 = some (.putfield 30, 3, 11, 2) := rfl
theorem f42_60 : fetch 42 60 = some (.aload_n 0, 0, 0, 0) := rfl
theorem f42_61 : fetch 42 61 = some (.bipush 8, 0, 0, 0) := rfl
theorem f42_63 : fetch 42 63 = some (.newarray .int, 20, 0, 0) := rfl
theorem f42_65 : fetch 42 65 = some (.putfield 33, 3, 12, 2) := rfl
theorem f42_68 : fetch 42 68 = some (.aload_n 0, 0, 0, 0) := rfl
theorem f42_69 : fetch 42 69 = some (.bipush 8, 0, 0, 0) := rfl
theorem f42_71 : fetch 42 71 = some (.newarray .int, 20, 0, 0) := rfl
theorem f42_73 : fetch 42 73 = some (.putfield 36, 3, 13, 2) := rfl
theorem f42_76 : fetch 42 76 = some (.aload_n 0, 0, 0, 0) := rfl
theorem f42_77 : fetch 42 77 = some (.aload_n 1, 0, 0, 0) := rfl
theorem f42_78 : fetch 42 78 = some (.putfield 39, 3, 0, 2) := rfl
theorem f42_81 : fetch 42 81 = some (.return_, 0, 0, 0) := rfl
theorem f60_0 : fetch 60 0 = some (.aload_n 0, 0, 0, 0) := rfl
theorem f60_1 : fetch 60 1 = some (.invokespecial 3, 0, 0, 5) := rfl
theorem f60_4 : fetch 60 4 = some (.aload_n 0, 0, 0, 0) := rfl
theorem f60_5 : fetch 60 5 = some (.bipush 60, 0, 0, 0) := rfl
theorem f60_7 : fetch 60 7 = some (.newarray .int, 20, 0, 0) := rfl
theorem f60_9 : fetch 60 9 = some (.putfield 9, 4, 1, 2) := rfl
theorem f60_12 : fetch 60 12 = some (.aload_n 0, 0, 0, 0) := rfl
theorem f60_13 : fetch 60 13 = some (.bipush 60, 0, 0, 0) := rfl
theorem f60_15 : fetch 60 15 = some (.newarray .int, 20, 0, 0) := rfl
theorem f60_17 : fetch 60 17 = some (.putfield 15, 4, 2, 2) := rfl
theorem f60_20 : fetch 60 20 = some (.aload_n 0, 0, 0, 0) := rfl
theorem f60_21 : fetch 60 21 = some (.bipush 60, 0, 0, 0) := rfl
theorem f60_23 : fetch 60 23 = some (.newarray .int, 20, 0, 0) := rfl
theorem f60_25 : fetch 60 25 = some (.putfield 18, 4, 3, 2) := rfl
theorem f60_28 : fetch 60 28 = some (.aload_n 0, 0, 0, 0) := rfl
theorem f60_29 : fetch 60 29 = some (.bipush 60, 0, 0, 0) := rfl
theorem f60_31 : fetch 60 31 = some (.newarray .int, 20, 0, 0) := rfl
theorem f60_33 : fetch 60 33 = some (.putfield 21, 4, 4, 2) := rfl
theorem f60_36 : fetch 60 36 = some (.aload_n 0, 0, 0, 0) := rfl
theorem f60_37 : fetch 60 37 = some (.bipush 60, 0, 0, 0) := rfl
theorem f60_39 : fetch 60 39 = some (.newarray .boolean, 22, 0, 0) := rfl
theorem f60_41 : fetch 60 41 = some (.putfield 24, 4, 5, 2) := rfl
theorem f60_44 : fetch 60 44 = some (.aload_n 0, 0, 0, 0) := rfl
theorem f60_45 : fetch 60 45 = some (.bipush 60, 0, 0, 0) := rfl
theorem f60_47 : fetch 60 47 = some (.newarray .int, 20, 0, 0) := rfl
theorem f60_49 : fetch 60 49 = some (.putfield 28, 4, 6, 2) := rfl
theorem f60_52 : fetch 60 52 = some (.aload_n 0, 0, 0, 0) := rfl
theorem f60_53 : fetch 60 53 = some (.bipush 60, 0, 0, 0) := rfl
theorem f60_55 : fetch 60 55 = some (.newarray .int, 20, 0, 0) := rfl
theorem f60_57 : fetch 60 57 = some (.putfield 31, 4, 7, 2) := rfl
theorem f60_60 : fetch 60 60 = some (.aload_n 0, 0, 0, 0) := rfl
theorem f60_61 : fetch 60 61 = some (.bipush 60, 0, 0, 0) := rfl
theorem f60_63 : fetch 60 63 = some (.newarray .int, 20, 0, 0) := rfl
theorem f60_65 : fetch 60 65 = some (.putfield 34, 4, 8, 2) := rfl
theorem f60_68 : fetch 60 68 = some (.return_, 0, 0, 0) := rfl
theorem f73_0 : fetch 73 0 = some (.aload_n 0, 0, 0, 0) := rfl
theorem f73_1 : fetch 73 1 = some (.invokespecial 3, 0, 0, 5) := rfl
theorem f73_4 : fetch 73 4 = some (.aload_n 0, 0, 0, 0) := rfl
theorem f73_5 : fetch 73 5 = some (.bipush 12, 0, 0, 0) := rfl
theorem f73_7 : fetch 73 7 = some (.newarray .int, 20, 0, 0) := rfl
theorem f73_9 : fetch 73 9 = some (.putfield 9, 7, 2, 2) := rfl
theorem f73_12 : fetch 73 12 = some (.aload_n 0, 0, 0, 0) := rfl
theorem f73_13 : fetch 73 13 = some (.bipush 12, 0, 0, 0) := rfl
theorem f73_15 : fetch 73 15 = some (.newarray .int, 20, 0, 0) := rfl
theorem f73_17 : fetch 73 17 = some (.putfield 15, 7, 3, 2) := rfl
theorem f73_20 : fetch 73 20 = some (.aload_n 0, 0, 0, 0) := rfl
theorem f73_21 : fetch 73 21 = some (.bipush 9, 0, 0, 0) := rfl
theorem f73_23 : fetch 73 23 = some (.newarray .int, 20, 0, 0) := rfl
theorem f73_25 : fetch 73 25 = some (.putfield 18, 7, 5, 2) := rfl
theorem f73_28 : fetch 73 28 = some (.aload_n 0, 0, 0, 0) := rfl
theorem f73_29 : fetch 73 29 = some (.bipush 9, 0, 0, 0) := rfl
theorem f73_31 : fetch 73 31 = some (.newarray .int, 20, 0, 0) := rfl
theorem f73_33 : fetch 73 33 = some (.putfield 21, 7, 6, 2) := rfl
theorem f73_36 : fetch 73 36 = some (.aload_n 0, 0, 0, 0) := rfl
theorem f73_37 : fetch 73 37 = some (.sipush 512, 0, 0, 0) := rfl
theorem f73_40 : fetch 73 40 = some (.newarray .int, 20, 0, 0) := rfl
theorem f73_42 : fetch 73 42 = some (.putfield 24, 7, 7, 2) := rfl
theorem f73_45 : fetch 73 45 = some (.aload_n 0, 0, 0, 0) := rfl
theorem f73_46 : fetch 73 46 = some (.sipush 512, 0, 0, 0) := rfl
theorem f73_49 : fetch 73 49 = some (.newarray .int, 20, 0, 0) := rfl
theorem f73_51 : fetch 73 51 = some (.putfield 27, 7, 8, 2) := rfl
theorem f73_54 : fetch 73 54 = some (.aload_n 0, 0, 0, 0) := rfl
theorem f73_55 : fetch 73 55 = some (.sipush 512, 0, 0, 0) := rfl
theorem f73_58 : fetch 73 58 = some (.newarray .long, 23, 0, 0) := rfl
theorem f73_60 : fetch 73 60 = some (.putfield 30, 7, 9, 2) := rfl
theorem f73_63 : fetch 73 63 = some (.aload_n 0, 0, 0, 0) := rfl
theorem f73_64 : fetch 73 64 = some (.aload_n 1, 0, 0, 0) := rfl
theorem f73_65 : fetch 73 65 = some (.putfield 34, 7, 0, 2) := rfl
theorem f73_68 : fetch 73 68 = some (.return_, 0, 0, 0) := rfl
theorem f83_0 : fetch 83 0 = some (.aload_n 0, 0, 0, 0) := rfl
theorem f83_1 : fetch 83 1 = some (.invokespecial 3, 0, 0, 5) := rfl
theorem f83_4 : fetch 83 4 = some (.aload_n 0, 0, 0, 0) := rfl
theorem f83_5 : fetch 83 5 = some (.bipush 20, 0, 0, 0) := rfl
theorem f83_7 : fetch 83 7 = some (.newarray .int, 20, 0, 0) := rfl
theorem f83_9 : fetch 83 9 = some (.putfield 9, 8, 2, 2) := rfl
theorem f83_12 : fetch 83 12 = some (.aload_n 0, 0, 0, 0) := rfl
theorem f83_13 : fetch 83 13 = some (.sipush 200, 0, 0, 0) := rfl
theorem f83_16 : fetch 83 16 = some (.newarray .int, 20, 0, 0) := rfl
theorem f83_18 : fetch 83 18 = some (.putfield 15, 8, 3, 2) := rfl
theorem f83_21 : fetch 83 21 = some (.aload_n 0, 0, 0, 0) := rfl
theorem f83_22 : fetch 83 22 = some (.sipush 200, 0, 0, 0) := rfl
theorem f83_25 : fetch 83 25 = some (.newarray .int, 20, 0, 0) := rfl
theorem f83_27 : fetch 83 27 = some (.putfield 18, 8, 4, 2) := rfl
theorem f83_30 : fetch 83 30 = some (.aload_n 0, 0, 0, 0) := rfl
theorem f83_31 : fetch 83 31 = some (.sipush 200, 0, 0, 0) := rfl
theorem f83_34 : fetch 83 34 = some (.newarray .int, 20, 0, 0) := rfl
theorem f83_36 : fetch 83 36 = some (.putfield 21, 8, 5, 2) := rfl
theorem f83_39 : fetch 83 39 = some (.aload_n 0, 0, 0, 0) := rfl
theorem f83_40 : fetch 83 40 = some (.sipush 200, 0, 0, 0) := rfl
theorem f83_43 : fetch 83 43 = some (.newarray .long, 23, 0, 0) := rfl
theorem f83_45 : fetch 83 45 = some (.putfield 24, 8, 6, 2) := rfl
theorem f83_48 : fetch 83 48 = some (.return_, 0, 0, 0) := rfl
theorem f100_0 : fetch 100 0 = some (.aload_n 0, 0, 0, 0) := rfl
theorem f100_1 : fetch 100 1 = some (.invokespecial 3, 0, 0, 5) := rfl
theorem f100_4 : fetch 100 4 = some (.aload_n 0, 0, 0, 0) := rfl
theorem f100_5 : fetch 100 5 = some (.sipush 400, 0, 0, 0) := rfl
theorem f100_8 : fetch 100 8 = some (.newarray .int, 20, 0, 0) := rfl
theorem f100_10 : fetch 100 10 = some (.putfield 9, 10, 1, 2) := rfl
theorem f100_13 : fetch 100 13 = some (.aload_n 0, 0, 0, 0) := rfl
theorem f100_14 : fetch 100 14 = some (.sipush 401, 0, 0, 0) := rfl
theorem f100_17 : fetch 100 17 = some (.newarray .int, 20, 0, 0) := rfl
theorem f100_19 : fetch 100 19 = some (.putfield 15, 10, 3, 2) := rfl
theorem f100_22 : fetch 100 22 = some (.aload_n 0, 0, 0, 0) := rfl
theorem f100_23 : fetch 100 23 = some (.sipush 401, 0, 0, 0) := rfl
theorem f100_26 : fetch 100 26 = some (.newarray .int, 20, 0, 0) := rfl
theorem f100_28 : fetch 100 28 = some (.putfield 18, 10, 4, 2) := rfl
theorem f100_31 : fetch 100 31 = some (.return_, 0, 0, 0) := rfl
theorem f113_0 : fetch 113 0 = some (.aload_n 0, 0, 0, 0) := rfl
theorem f113_1 : fetch 113 1 = some (.invokespecial 3, 0, 0, 5) := rfl
theorem f113_4 : fetch 113 4 = some (.aload_n 0, 0, 0, 0) := rfl
theorem f113_5 : fetch 113 5 = some (.iconst (-1), 0, 0, 0) := rfl
theorem f113_6 : fetch 113 6 = some (.putfield 9, 11, 1, 0) := rfl
theorem f113_9 : fetch 113 9 = some (.aload_n 0, 0, 0, 0) := rfl
theorem f113_10 : fetch 113 10 = some (.new 13, 8, 7, 0) := rfl
theorem f113_13 : fetch 113 13 = some (.dup, 0, 0, 0) := rfl
theorem f113_14 : fetch 113 14 = some (.invokespecial 15, 83, 0, 4) := rfl
theorem f113_17 : fetch 113 17 = some (.putfield 16, 11, 5, 2) := rfl
theorem f113_20 : fetch 113 20 = some (.aload_n 0, 0, 0, 0) := rfl
theorem f113_21 : fetch 113 21 = some (.new 20, 3, 14, 0) := rfl
theorem f113_24 : fetch 113 24 = some (.dup, 0, 0, 0) := rfl
theorem f113_25 : fetch 113 25 = some (.aload_n 0, 0, 0, 0) := rfl
theorem f113_26 : fetch 113 26 = some (.getfield 16, 11, 5, 2) := rfl
theorem f113_29 : fetch 113 29 = some (.invokespecial 22, 42, 1, 3) := rfl
theorem f113_32 : fetch 113 32 = some (.putfield 25, 11, 6, 2) := rfl
theorem f113_35 : fetch 113 35 = some (.aload_n 0, 0, 0, 0) := rfl
theorem f113_36 : fetch 113 36 = some (.sipush 200, 0, 0, 0) := rfl
theorem f113_39 : fetch 113 39 = some (.anewarray 29, 24, 0, 0) := rfl
theorem f113_42 : fetch 113 42 = some (.putfield 31, 11, 7, 2) := rfl
theorem f113_45 : fetch 113 45 = some (.aload_n 0, 0, 0, 0) := rfl
theorem f113_46 : fetch 113 46 = some (.new 35, 0, 11, 0) := rfl
theorem f113_49 : fetch 113 49 = some (.dup, 0, 0, 0) := rfl
theorem f113_50 : fetch 113 50 = some (.invokespecial 37, 0, 0, 4) := rfl
theorem f113_53 : fetch 113 53 = some (.putfield 38, 11, 8, 2) := rfl
theorem f113_56 : fetch 113 56 = some (.aload_n 0, 0, 0, 0) := rfl
theorem f113_57 : fetch 113 57 = some (.new 42, 10, 5, 0) := rfl
theorem f113_60 : fetch 113 60 = some (.dup, 0, 0, 0) := rfl
theorem f113_61 : fetch 113 61 = some (.invokespecial 44, 100, 0, 4) := rfl
theorem f113_64 : fetch 113 64 = some (.putfield 45, 11, 9, 2) := rfl
theorem f113_67 : fetch 113 67 = some (.aload_n 0, 0, 0, 0) := rfl
theorem f113_68 : fetch 113 68 = some (.new 49, 2, 11, 0) := rfl
theorem f113_71 : fetch 113 71 = some (.dup, 0, 0, 0) := rfl
theorem f113_72 : fetch 113 72 = some (.aload_n 0, 0, 0, 0) := rfl
theorem f113_73 : fetch 113 73 = some (.getfield 45, 11, 9, 2) := rfl
theorem f113_76 : fetch 113 76 = some (.invokespecial 51, 29, 1, 3) := rfl
theorem f113_79 : fetch 113 79 = some (.putfield 54, 11, 10, 2) := rfl
theorem f113_82 : fetch 113 82 = some (.aload_n 0, 0, 0, 0) := rfl
theorem f113_83 : fetch 113 83 = some (.bipush 20, 0, 0, 0) := rfl
theorem f113_85 : fetch 113 85 = some (.anewarray 58, 25, 0, 0) := rfl
theorem f113_88 : fetch 113 88 = some (.putfield 60, 11, 11, 2) := rfl
theorem f113_91 : fetch 113 91 = some (.aload_n 0, 0, 0, 0) := rfl
theorem f113_92 : fetch 113 92 = some (.bipush 30, 0, 0, 0) := rfl
theorem f113_94 : fetch 113 94 = some (.anewarray 64, 26, 0, 0) := rfl
theorem f113_97 : fetch 113 97 = some (.putfield 66, 11, 12, 2) := rfl
theorem f113_100 : fetch 113 100 = some (.aload_n 0, 0, 0, 0) := rfl
theorem f113_101 : fetch 113 101 = some (.new 70, 4, 9, 0) := rfl
theorem f113_104 : fetch 113 104 = some (.dup, 0, 0, 0) := rfl
theorem f113_105 : fetch 113 105 = some (.invokespecial 72, 60, 0, 4) := rfl
theorem f113_108 : fetch 113 108 = some (.putfield 73, 11, 13, 2) := rfl
theorem f113_111 : fetch 113 111 = some (.aload_n 0, 0, 0, 0) := rfl
theorem f113_112 : fetch 113 112 = some (.new 77, 7, 10, 0) := rfl
theorem f113_115 : fetch 113 115 = some (.dup, 0, 0, 0) := rfl
theorem f113_116 : fetch 113 116 = some (.aload_n 0, 0, 0, 0) := rfl
theorem f113_117 : fetch 113 117 = some (.getfield 16, 11, 5, 2) := rfl
theorem f113_120 : fetch 113 120 = some (.invokespecial 79, 73, 1, 3) := rfl
theorem f113_123 : fetch 113 123 = some (.putfield 80, 11, 14, 2) := rfl
theorem f113_126 : fetch 113 126 = some (.aload_n 0, 0, 0, 0) := rfl
theorem f113_127 : fetch 113 127 = some (.bipush 11, 0, 0, 0) := rfl
theorem f113_129 : fetch 113 129 = some (.newarray .long, 23, 0, 0) := rfl
theorem f113_131 : fetch 113 131 = some (.putfield 84, 11, 15, 2) := rfl
theorem f113_134 : fetch 113 134 = some (.return_, 0, 0, 0) := rfl
theorem f186_0 : fetch 186 0 = some (.aload_n 0, 0, 0, 0) := rfl
theorem f186_1 : fetch 186 1 = some (.invokespecial 1, 0, 0, 5) := rfl
theorem f186_4 : fetch 186 4 = some (.aload_n 0, 0, 0, 0) := rfl
theorem f186_5 : fetch 186 5 = some (.bipush 20, 0, 0, 0) := rfl
theorem f186_7 : fetch 186 7 = some (.newarray .int, 20, 0, 0) := rfl
theorem f186_9 : fetch 186 9 = some (.putfield 9, 12, 4, 2) := rfl
theorem f186_12 : fetch 186 12 = some (.aload_n 0, 0, 0, 0) := rfl
theorem f186_13 : fetch 186 13 = some (.sipush 200, 0, 0, 0) := rfl
theorem f186_16 : fetch 186 16 = some (.newarray .int, 20, 0, 0) := rfl
theorem f186_18 : fetch 186 18 = some (.putfield 13, 12, 5, 2) := rfl
theorem f186_21 : fetch 186 21 = some (.aload_n 0, 0, 0, 0) := rfl
theorem f186_22 : fetch 186 22 = some (.sipush 200, 0, 0, 0) := rfl
theorem f186_25 : fetch 186 25 = some (.newarray .int, 20, 0, 0) := rfl
theorem f186_27 : fetch 186 27 = some (.putfield 16, 12, 6, 2) := rfl
theorem f186_30 : fetch 186 30 = some (.aload_n 0, 0, 0, 0) := rfl
theorem f186_31 : fetch 186 31 = some (.sipush 800, 0, 0, 0) := rfl
theorem f186_34 : fetch 186 34 = some (.newarray .int, 20, 0, 0) := rfl
theorem f186_36 : fetch 186 36 = some (.putfield 19, 12, 7, 2) := rfl
theorem f186_39 : fetch 186 39 = some (.aload_n 0, 0, 0, 0) := rfl
theorem f186_40 : fetch 186 40 = some (.sipush 200, 0, 0, 0) := rfl
theorem f186_43 : fetch 186 43 = some (.newarray .int, 20, 0, 0) := rfl
theorem f186_45 : fetch 186 45 = some (.putfield 22, 12, 8, 2) := rfl
theorem f186_48 : fetch 186 48 = some (.aload_n 0, 0, 0, 0) := rfl
theorem f186_49 : fetch 186 49 = some (.bipush 8, 0, 0, 0) := rfl
theorem f186_51 : fetch 186 51 = some (.newarray .int, 20, 0, 0) := rfl
theorem f186_53 : fetch 186 53 = some (.putfield 25, 12, 9, 2) := rfl
theorem f186_56 : fetch 186 56 = some (.aload_n 0, 0, 0, 0) := rfl
theorem f186_57 : fetch 186 57 = some (.bipush 8, 0, 0, 0) := rfl
theorem f186_59 : fetch 186 59 = some (.newarray .int, 20, 0, 0) := rfl
theorem f186_61 : fetch 186 61 = some (.putfield 28, 12, 10, 2) := rfl
theorem f186_64 : fetch 186 64 = some (.aload_n 0, 0, 0, 0) := rfl
theorem f186_65 : fetch 186 65 = some (.bipush 8, 0, 0, 0) := rfl
theorem f186_67 : fetch 186 67 = some (.newarray .int, 20, 0, 0) := rfl
theorem f186_69 : fetch 186 69 = some (.putfield 31, 12, 11, 2) := rfl
theorem f186_72 : fetch 186 72 = some (.aload_n 0, 0, 0, 0) := rfl
theorem f186_73 : fetch 186 73 = some (.sipush 200, 0, 0, 0) := rfl
theorem f186_76 : fetch 186 76 = some (.newarray .int, 20, 0, 0) := rfl
theorem f186_78 : fetch 186 78 = some (.putfield 34, 12, 15, 2) := rfl
theorem f186_81 : fetch 186 81 = some (.aload_n 0, 0, 0, 0) := rfl
theorem f186_82 : fetch 186 82 = some (.sipush 200, 0, 0, 0) := rfl
theorem f186_85 : fetch 186 85 = some (.newarray .int, 20, 0, 0) := rfl
theorem f186_87 : fetch 186 87 = some (.putfield 37, 12, 16, 2) := rfl
theorem f186_90 : fetch 186 90 = some (.aload_n 0, 0, 0, 0) := rfl
theorem f186_91 : fetch 186 91 = some (.sipush 200, 0, 0, 0) := rfl
theorem f186_94 : fetch 186 94 = some (.newarray .int, 20, 0, 0) := rfl
theorem f186_96 : fetch 186 96 = some (.putfield 40, 12, 17, 2) := rfl
theorem f186_99 : fetch 186 99 = some (.aload_n 0, 0, 0, 0) := rfl
theorem f186_100 : fetch 186 100 = some (.sipush 200, 0, 0, 0) := rfl
theorem f186_103 : fetch 186 103 = some (.newarray .int, 20, 0, 0) := rfl
theorem f186_105 : fetch 186 105 = some (.putfield 43, 12, 18, 2) := rfl
theorem f186_108 : fetch 186 108 = some (.aload_n 0, 0, 0, 0) := rfl
theorem f186_109 : fetch 186 109 = some (.sipush 200, 0, 0, 0) := rfl
theorem f186_112 : fetch 186 112 = some (.newarray .int, 20, 0, 0) := rfl
theorem f186_114 : fetch 186 114 = some (.putfield 46, 12, 19, 2) := rfl
theorem f186_117 : fetch 186 117 = some (.aload_n 0, 0, 0, 0) := rfl
theorem f186_118 : fetch 186 118 = some (.bipush 60, 0, 0, 0) := rfl
theorem f186_120 : fetch 186 120 = some (.newarray .int, 20, 0, 0) := rfl
theorem f186_122 : fetch 186 122 = some (.putfield 49, 12, 22, 2) := rfl
theorem f186_125 : fetch 186 125 = some (.aload_n 0, 0, 0, 0) := rfl
theorem f186_126 : fetch 186 126 = some (.bipush 60, 0, 0, 0) := rfl
theorem f186_128 : fetch 186 128 = some (.newarray .int, 20, 0, 0) := rfl
theorem f186_130 : fetch 186 130 = some (.putfield 52, 12, 23, 2) := rfl
theorem f186_133 : fetch 186 133 = some (.aload_n 0, 0, 0, 0) := rfl
theorem f186_134 : fetch 186 134 = some (.bipush 60, 0, 0, 0) := rfl
theorem f186_136 : fetch 186 136 = some (.newarray .int, 20, 0, 0) := rfl
theorem f186_138 : fetch 186 138 = some (.putfield 55, 12, 24, 2) := rfl
theorem f186_141 : fetch 186 141 = some (.aload_n 0, 0, 0, 0) := rfl
theorem f186_142 : fetch 186 142 = some (.sipush 400, 0, 0, 0) := rfl
theorem f186_145 : fetch 186 145 = some (.newarray .int, 20, 0, 0) := rfl
theorem f186_147 : fetch 186 147 = some (.putfield 58, 12, 25, 2) := rfl
theorem f186_150 : fetch 186 150 = some (.aload_n 0, 0, 0, 0) := rfl
theorem f186_151 : fetch 186 151 = some (.sipush 400, 0, 0, 0) := rfl
theorem f186_154 : fetch 186 154 = some (.newarray .int, 20, 0, 0) := rfl
theorem f186_156 : fetch 186 156 = some (.putfield 61, 12, 26, 2) := rfl
theorem f186_159 : fetch 186 159 = some (.aload_n 0, 0, 0, 0) := rfl
theorem f186_160 : fetch 186 160 = some (.sipush 400, 0, 0, 0) := rfl
theorem f186_163 : fetch 186 163 = some (.newarray .int, 20, 0, 0) := rfl
theorem f186_165 : fetch 186 165 = some (.putfield 64, 12, 27, 2) := rfl
theorem f186_168 : fetch 186 168 = some (.aload_n 0, 0, 0, 0) := rfl
theorem f186_169 : fetch 186 169 = some (.sipush 400, 0, 0, 0) := rfl
theorem f186_172 : fetch 186 172 = some (.newarray .int, 20, 0, 0) := rfl
theorem f186_174 : fetch 186 174 = some (.putfield 67, 12, 28, 2) := rfl
theorem f186_177 : fetch 186 177 = some (.aload_n 0, 0, 0, 0) := rfl
theorem f186_178 : fetch 186 178 = some (.sipush 400, 0, 0, 0) := rfl
theorem f186_181 : fetch 186 181 = some (.newarray .int, 20, 0, 0) := rfl
theorem f186_183 : fetch 186 183 = some (.putfield 70, 12, 29, 2) := rfl
theorem f186_186 : fetch 186 186 = some (.aload_n 0, 0, 0, 0) := rfl
theorem f186_187 : fetch 186 187 = some (.sipush 400, 0, 0, 0) := rfl
theorem f186_190 : fetch 186 190 = some (.newarray .int, 20, 0, 0) := rfl
theorem f186_192 : fetch 186 192 = some (.putfield 73, 12, 30, 2) := rfl
theorem f186_195 : fetch 186 195 = some (.aload_n 0, 0, 0, 0) := rfl
theorem f186_196 : fetch 186 196 = some (.bipush 40, 0, 0, 0) := rfl
theorem f186_198 : fetch 186 198 = some (.newarray .int, 20, 0, 0) := rfl
theorem f186_200 : fetch 186 200 = some (.putfield 76, 12, 34, 2) := rfl
theorem f186_203 : fetch 186 203 = some (.aload_n 0, 0, 0, 0) := rfl
theorem f186_204 : fetch 186 204 = some (.bipush 32, 0, 0, 0) := rfl
theorem f186_206 : fetch 186 206 = some (.newarray .int, 20, 0, 0) := rfl
theorem f186_208 : fetch 186 208 = some (.putfield 79, 12, 35, 2) := rfl
theorem f186_211 : fetch 186 211 = some (.aload_n 0, 0, 0, 0) := rfl
theorem f186_212 : fetch 186 212 = some (.sipush 200, 0, 0, 0) := rfl
theorem f186_215 : fetch 186 215 = some (.newarray .int, 20, 0, 0) := rfl
theorem f186_217 : fetch 186 217 = some (.putfield 82, 12, 36, 2) := rfl
theorem f186_220 : fetch 186 220 = some (.aload_n 0, 0, 0, 0) := rfl
theorem f186_221 : fetch 186 221 = some (.sipush 200, 0, 0, 0) := rfl
theorem f186_224 : fetch 186 224 = some (.newarray .int, 20, 0, 0) := rfl
theorem f186_226 : fetch 186 226 = some (.putfield 85, 12, 37, 2) := rfl
theorem f186_229 : fetch 186 229 = some (.aload_n 0, 0, 0, 0) := rfl
theorem f186_230 : fetch 186 230 = some (.sipush 200, 0, 0, 0) := rfl
theorem f186_233 : fetch 186 233 = some (.newarray .int, 20, 0, 0) := rfl
theorem f186_235 : fetch 186 235 = some (.putfield 88, 12, 38, 2) := rfl
theorem f186_238 : fetch 186 238 = some (.aload_n 0, 0, 0, 0) := rfl
theorem f186_239 : fetch 186 239 = some (.sipush 200, 0, 0, 0) := rfl
theorem f186_242 : fetch 186 242 = some (.newarray .int, 20, 0, 0) := rfl
theorem f186_244 : fetch 186 244 = some (.putfield 91, 12, 39, 2) := rfl
theorem f186_247 : fetch 186 247 = some (.aload_n 0, 0, 0, 0) := rfl
theorem f186_248 : fetch 186 248 = some (.sipush 200, 0, 0, 0) := rfl
theorem f186_251 : fetch 186 251 = some (.newarray .int, 20, 0, 0) := rfl
theorem f186_253 : fetch 186 253 = some (.putfield 94, 12, 40, 2) := rfl
theorem f186_256 : fetch 186 256 = some (.aload_n 0, 0, 0, 0) := rfl
theorem f186_257 : fetch 186 257 = some (.sipush 200, 0, 0, 0) := rfl
theorem f186_260 : fetch 186 260 = some (.newarray .int, 20, 0, 0) := rfl
theorem f186_262 : fetch 186 262 = some (.putfield 97, 12, 41, 2) := rfl
theorem f186_265 : fetch 186 265 = some (.aload_n 0, 0, 0, 0) := rfl
theorem f186_266 : fetch 186 266 = some (.sipush 200, 0, 0, 0) := rfl
theorem f186_269 : fetch 186 269 = some (.newarray .int, 20, 0, 0) := rfl
theorem f186_271 : fetch 186 271 = some (.putfield 100, 12, 42, 2) := rfl
theorem f186_274 : fetch 186 274 = some (.aload_n 0, 0, 0, 0) := rfl
theorem f186_275 : fetch 186 275 = some (.sipush 200, 0, 0, 0) := rfl
theorem f186_278 : fetch 186 278 = some (.newarray .int, 20, 0, 0) := rfl
theorem f186_280 : fetch 186 280 = some (.putfield 103, 12, 43, 2) := rfl
theorem f186_283 : fetch 186 283 = some (.aload_n 0, 0, 0, 0) := rfl
theorem f186_284 : fetch 186 284 = some (.sipush 200, 0, 0, 0) := rfl
theorem f186_287 : fetch 186 287 = some (.newarray .int, 20, 0, 0) := rfl
theorem f186_289 : fetch 186 289 = some (.putfield 106, 12, 44, 2) := rfl
theorem f186_292 : fetch 186 292 = some (.aload_n 0, 0, 0, 0) := rfl
theorem f186_293 : fetch 186 293 = some (.sipush 200, 0, 0, 0) := rfl
theorem f186_296 : fetch 186 296 = some (.newarray .int, 20, 0, 0) := rfl
theorem f186_298 : fetch 186 298 = some (.putfield 109, 12, 45, 2) := rfl
theorem f186_301 : fetch 186 301 = some (.aload_n 0, 0, 0, 0) := rfl
theorem f186_302 : fetch 186 302 = some (.sipush 200, 0, 0, 0) := rfl
theorem f186_305 : fetch 186 305 = some (.newarray .int, 20, 0, 0) := rfl
theorem f186_307 : fetch 186 307 = some (.putfield 112, 12, 46, 2) := rfl
theorem f186_310 : fetch 186 310 = some (.aload_n 0, 0, 0, 0) := rfl
theorem f186_311 : fetch 186 311 = some (.sipush 200, 0, 0, 0) := rfl
theorem f186_314 : fetch 186 314 = some (.newarray .int, 20, 0, 0) := rfl
theorem f186_316 : fetch 186 316 = some (.putfield 115, 12, 47, 2) := rfl
theorem f186_319 : fetch 186 319 = some (.aload_n 0, 0, 0, 0) := rfl
theorem f186_320 : fetch 186 320 = some (.sipush 200, 0, 0, 0) := rfl
theorem f186_323 : fetch 186 323 = some (.newarray .int, 20, 0, 0) := rfl
theorem f186_325 : fetch 186 325 = some (.putfield 118, 12, 48, 2) := rfl
theorem f186_328 : fetch 186 328 = some (.aload_n 0, 0, 0, 0) := rfl
theorem f186_329 : fetch 186 329 = some (.sipush 200, 0, 0, 0) := rfl
theorem f186_332 : fetch 186 332 = some (.newarray .int, 20, 0, 0) := rfl
theorem f186_334 : fetch 186 334 = some (.putfield 121, 12, 49, 2) := rfl
theorem f186_337 : fetch 186 337 = some (.aload_n 0, 0, 0, 0) := rfl
theorem f186_338 : fetch 186 338 = some (.bipush 60, 0, 0, 0) := rfl
theorem f186_340 : fetch 186 340 = some (.newarray .boolean, 22, 0, 0) := rfl
theorem f186_342 : fetch 186 342 = some (.putfield 124, 12, 50, 2) := rfl
theorem f186_345 : fetch 186 345 = some (.aload_n 0, 0, 0, 0) := rfl
theorem f186_346 : fetch 186 346 = some (.sipush 400, 0, 0, 0) := rfl
theorem f186_349 : fetch 186 349 = some (.newarray .byte, 21, 0, 0) := rfl
theorem f186_351 : fetch 186 351 = some (.putfield 128, 12, 51, 2) := rfl
theorem f186_354 : fetch 186 354 = some (.aload_n 0, 0, 0, 0) := rfl
theorem f186_355 : fetch 186 355 = some (.bipush 20, 0, 0, 0) := rfl
theorem f186_357 : fetch 186 357 = some (.newarray .int, 20, 0, 0) := rfl
theorem f186_359 : fetch 186 359 = some (.putfield 132, 12, 59, 2) := rfl
theorem f186_362 : fetch 186 362 = some (.aload_n 0, 0, 0, 0) := rfl
theorem f186_363 : fetch 186 363 = some (.bipush 20, 0, 0, 0) := rfl
theorem f186_365 : fetch 186 365 = some (.newarray .int, 20, 0, 0) := rfl
theorem f186_367 : fetch 186 367 = some (.putfield 135, 12, 60, 2) := rfl
theorem f186_370 : fetch 186 370 = some (.aload_n 0, 0, 0, 0) := rfl
theorem f186_371 : fetch 186 371 = some (.sipush 240, 0, 0, 0) := rfl
theorem f186_374 : fetch 186 374 = some (.newarray .int, 20, 0, 0) := rfl
theorem f186_376 : fetch 186 376 = some (.putfield 138, 12, 61, 2) := rfl
theorem f186_379 : fetch 186 379 = some (.aload_n 0, 0, 0, 0) := rfl
theorem f186_380 : fetch 186 380 = some (.sipush 240, 0, 0, 0) := rfl
theorem f186_383 : fetch 186 383 = some (.newarray .int, 20, 0, 0) := rfl
theorem f186_385 : fetch 186 385 = some (.putfield 141, 12, 62, 2) := rfl
theorem f186_388 : fetch 186 388 = some (.aload_n 0, 0, 0, 0) := rfl
theorem f186_389 : fetch 186 389 = some (.sipush 240, 0, 0, 0) := rfl
theorem f186_392 : fetch 186 392 = some (.newarray .int, 20, 0, 0) := rfl
theorem f186_394 : fetch 186 394 = some (.putfield 144, 12, 63, 2) := rfl
theorem f186_397 : fetch 186 397 = some (.aload_n 0, 0, 0, 0) := rfl
theorem f186_398 : fetch 186 398 = some (.sipush 240, 0, 0, 0) := rfl
theorem f186_401 : fetch 186 401 = some (.newarray .int, 20, 0, 0) := rfl
theorem f186_403 : fetch 186 403 = some (.putfield 147, 12, 64, 2) := rfl
theorem f186_406 : fetch 186 406 = some (.aload_n 0, 0, 0, 0) := rfl
theorem f186_407 : fetch 186 407 = some (.sipush 8000, 0, 0, 0) := rfl
theorem f186_410 : fetch 186 410 = some (.newarray .int, 20, 0, 0) := rfl
theorem f186_412 : fetch 186 412 = some (.putfield 150, 12, 65, 2) := rfl
theorem f186_415 : fetch 186 415 = some (.aload_n 0, 0, 0, 0) := rfl
theorem f186_416 : fetch 186 416 = some (.sipush 8000, 0, 0, 0) := rfl
theorem f186_419 : fetch 186 419 = some (.newarray .int, 20, 0, 0) := rfl
theorem f186_421 : fetch 186 421 = some (.putfield 153, 12, 66, 2) := rfl
theorem f186_424 : fetch 186 424 = some (.aload_n 0, 0, 0, 0) := rfl
theorem f186_425 : fetch 186 425 = some (.sipush 400, 0, 0, 0) := rfl
theorem f186_428 : fetch 186 428 = some (.newarray .int, 20, 0, 0) := rfl
theorem f186_430 : fetch 186 430 = some (.putfield 156, 12, 69, 2) := rfl
theorem f186_433 : fetch 186 433 = some (.aload_n 0, 0, 0, 0) := rfl
theorem f186_434 : fetch 186 434 = some (.sipush 400, 0, 0, 0) := rfl
theorem f186_437 : fetch 186 437 = some (.newarray .long, 23, 0, 0) := rfl
theorem f186_439 : fetch 186 439 = some (.putfield 159, 12, 70, 2) := rfl
theorem f186_442 : fetch 186 442 = some (.aload_n 0, 0, 0, 0) := rfl
theorem f186_443 : fetch 186 443 = some (.bipush 11, 0, 0, 0) := rfl
theorem f186_445 : fetch 186 445 = some (.newarray .long, 23, 0, 0) := rfl
theorem f186_447 : fetch 186 447 = some (.putfield 163, 12, 71, 2) := rfl
theorem f186_450 : fetch 186 450 = some (.aload_n 0, 0, 0, 0) := rfl
theorem f186_451 : fetch 186 451 = some (.iconst (-1), 0, 0, 0) := rfl
theorem f186_452 : fetch 186 452 = some (.putfield 166, 12, 73, 0) := rfl
theorem f186_455 : fetch 186 455 = some (.aload_n 0, 0, 0, 0) := rfl
theorem f186_456 : fetch 186 456 = some (.sipush 4000, 0, 0, 0) := rfl
theorem f186_459 : fetch 186 459 = some (.newarray .long, 23, 0, 0) := rfl
theorem f186_461 : fetch 186 461 = some (.putfield 170, 12, 74, 2) := rfl
theorem f186_464 : fetch 186 464 = some (.aload_n 0, 0, 0, 0) := rfl
theorem f186_465 : fetch 186 465 = some (.sipush 4000, 0, 0, 0) := rfl
theorem f186_468 : fetch 186 468 = some (.newarray .int, 20, 0, 0) := rfl
theorem f186_470 : fetch 186 470 = some (.putfield 173, 12, 75, 2) := rfl
theorem f186_473 : fetch 186 473 = some (.aload_n 0, 0, 0, 0) := rfl
theorem f186_474 : fetch 186 474 = some (.sipush 4000, 0, 0, 0) := rfl
theorem f186_477 : fetch 186 477 = some (.newarray .int, 20, 0, 0) := rfl
theorem f186_479 : fetch 186 479 = some (.putfield 176, 12, 76, 2) := rfl
theorem f186_482 : fetch 186 482 = some (.aload_n 0, 0, 0, 0) := rfl
theorem f186_483 : fetch 186 483 = some (.bipush 30, 0, 0, 0) := rfl
theorem f186_485 : fetch 186 485 = some (.newarray .int, 20, 0, 0) := rfl
theorem f186_487 : fetch 186 487 = some (.putfield 179, 12, 77, 2) := rfl
theorem f186_490 : fetch 186 490 = some (.aload_n 0, 0, 0, 0) := rfl
theorem f186_491 : fetch 186 491 = some (.bipush 30, 0, 0, 0) := rfl
theorem f186_493 : fetch 186 493 = some (.newarray .int, 20, 0, 0) := rfl
theorem f186_495 : fetch 186 495 = some (.putfield 182, 12, 78, 2) := rfl
theorem f186_498 : fetch 186 498 = some (.aload_n 0, 0, 0, 0) := rfl
theorem f186_499 : fetch 186 499 = some (.bipush 30, 0, 0, 0) := rfl
theorem f186_501 : fetch 186 501 = some (.newarray .int, 20, 0, 0) := rfl
theorem f186_503 : fetch 186 503 = some (.putfield 185, 12, 79, 2) := rfl
theorem f186_506 : fetch 186 506 = some (.aload_n 0, 0, 0, 0) := rfl
theorem f186_507 : fetch 186 507 = some (.bipush 30, 0, 0, 0) := rfl
theorem f186_509 : fetch 186 509 = some (.newarray .int, 20, 0, 0) := rfl
theorem f186_511 : fetch 186 511 = some (.putfield 188, 12, 80, 2) := rfl
theorem f186_514 : fetch 186 514 = some (.aload_n 0, 0, 0, 0) := rfl
theorem f186_515 : fetch 186 515 = some (.bipush 30, 0, 0, 0) := rfl
theorem f186_517 : fetch 186 517 = some (.newarray .boolean, 22, 0, 0) := rfl
theorem f186_519 : fetch 186 519 = some (.putfield 191, 12, 81, 2) := rfl
theorem f186_522 : fetch 186 522 = some (.aload_n 0, 0, 0, 0) := rfl
theorem f186_523 : fetch 186 523 = some (.ldc 194, 0, 0, 120000) := rfl
theorem f186_525 : fetch 186 525 = some (.newarray .byte, 21, 0, 0) := rfl
theorem f186_527 : fetch 186 527 = some (.putfield 195, 12, 82, 2) := rfl
theorem f186_530 : fetch 186 530 = some (.aload_n 0, 0, 0, 0) := rfl
theorem f186_531 : fetch 186 531 = some (.bipush 60, 0, 0, 0) := rfl
theorem f186_533 : fetch 186 533 = some (.newarray .boolean, 22, 0, 0) := rfl
theorem f186_535 : fetch 186 535 = some (.putfield 198, 12, 83, 2) := rfl
theorem f186_538 : fetch 186 538 = some (.aload_n 0, 0, 0, 0) := rfl
theorem f186_539 : fetch 186 539 = some (.sipush 200, 0, 0, 0) := rfl
theorem f186_542 : fetch 186 542 = some (.newarray .boolean, 22, 0, 0) := rfl
theorem f186_544 : fetch 186 544 = some (.putfield 201, 12, 84, 2) := rfl
theorem f186_547 : fetch 186 547 = some (.aload_n 0, 0, 0, 0) := rfl
theorem f186_548 : fetch 186 548 = some (.bipush 60, 0, 0, 0) := rfl
theorem f186_550 : fetch 186 550 = some (.newarray .int, 20, 0, 0) := rfl
theorem f186_552 : fetch 186 552 = some (.putfield 204, 12, 86, 2) := rfl
theorem f186_555 : fetch 186 555 = some (.aload_n 0, 0, 0, 0) := rfl
theorem f186_556 : fetch 186 556 = some (.bipush 60, 0, 0, 0) := rfl
theorem f186_558 : fetch 186 558 = some (.newarray .int, 20, 0, 0) := rfl
theorem f186_560 : fetch 186 560 = some (.putfield 207, 12, 87, 2) := rfl
theorem f186_563 : fetch 186 563 = some (.aload_n 0, 0, 0, 0) := rfl
theorem f186_564 : fetch 186 564 = some (.bipush 60, 0, 0, 0) := rfl
theorem f186_566 : fetch 186 566 = some (.newarray .int, 20, 0, 0) := rfl
theorem f186_568 : fetch 186 568 = some (.putfield 210, 12, 88, 2) := rfl
theorem f186_571 : fetch 186 571 = some (.aload_n 0, 0, 0, 0) := rfl
theorem f186_572 : fetch 186 572 = some (.bipush 60, 0, 0, 0) := rfl
theorem f186_574 : fetch 186 574 = some (.newarray .int, 20, 0, 0) := rfl
theorem f186_576 : fetch 186 576 = some (.putfield 213, 12, 89, 2) := rfl
theorem f186_579 : fetch 186 579 = some (.aload_n 0, 0, 0, 0) := rfl
theorem f186_580 : fetch 186 580 = some (.bipush 60, 0, 0, 0) := rfl
theorem f186_582 : fetch 186 582 = some (.newarray .boolean, 22, 0, 0) := rfl
theorem f186_584 : fetch 186 584 = some (.putfield 216, 12, 90, 2) := rfl
theorem f186_587 : fetch 186 587 = some (.aload_n 0, 0, 0, 0) := rfl
theorem f186_588 : fetch 186 588 = some (.bipush 12, 0, 0, 0) := rfl
theorem f186_590 : fetch 186 590 = some (.newarray .int, 20, 0, 0) := rfl
theorem f186_592 : fetch 186 592 = some (.putfield 219, 12, 93, 2) := rfl
theorem f186_595 : fetch 186 595 = some (.aload_n 0, 0, 0, 0) := rfl
theorem f186_596 : fetch 186 596 = some (.bipush 12, 0, 0, 0) := rfl
theorem f186_598 : fetch 186 598 = some (.newarray .int, 20, 0, 0) := rfl
theorem f186_600 : fetch 186 600 = some (.putfield 222, 12, 94, 2) := rfl
theorem f186_603 : fetch 186 603 = some (.aload_n 0, 0, 0, 0) := rfl
theorem f186_604 : fetch 186 604 = some (.bipush 9, 0, 0, 0) := rfl
theorem f186_606 : fetch 186 606 = some (.newarray .int, 20, 0, 0) := rfl
theorem f186_608 : fetch 186 608 = some (.putfield 225, 12, 95, 2) := rfl
theorem f186_611 : fetch 186 611 = some (.aload_n 0, 0, 0, 0) := rfl
theorem f186_612 : fetch 186 612 = some (.bipush 9, 0, 0, 0) := rfl
theorem f186_614 : fetch 186 614 = some (.newarray .int, 20, 0, 0) := rfl
theorem f186_616 : fetch 186 616 = some (.putfield 228, 12, 96, 2) := rfl
theorem f186_619 : fetch 186 619 = some (.aload_n 0, 0, 0, 0) := rfl
theorem f186_620 : fetch 186 620 = some (.bipush 9, 0, 0, 0) := rfl
theorem f186_622 : fetch 186 622 = some (.newarray .int, 20, 0, 0) := rfl
theorem f186_624 : fetch 186 624 = some (.putfield 231, 12, 97, 2) := rfl
theorem f186_627 : fetch 186 627 = some (.aload_n 0, 0, 0, 0) := rfl
theorem f186_628 : fetch 186 628 = some (.sipush 512, 0, 0, 0) := rfl
theorem f186_631 : fetch 186 631 = some (.newarray .long, 23, 0, 0) := rfl
theorem f186_633 : fetch 186 633 = some (.putfield 234, 12, 98, 2) := rfl
theorem f186_636 : fetch 186 636 = some (.return_, 0, 0, 0) := rfl
theorem f306_0 : fetch 306 0 = some (.new 7, 11, 16, 0) := rfl
theorem f306_3 : fetch 306 3 = some (.dup, 0, 0, 0) := rfl
theorem f306_4 : fetch 306 4 = some (.invokespecial 9, 113, 0, 3) := rfl
theorem f306_7 : fetch 306 7 = some (.astore_n 1, 0, 0, 0) := rfl
theorem f306_8 : fetch 306 8 = some (.new 10, 12, 99, 0) := rfl
theorem f306_11 : fetch 306 11 = some (.dup, 0, 0, 0) := rfl
theorem f306_12 : fetch 306 12 = some (.invokespecial 12, 186, 0, 3) := rfl
theorem f306_15 : fetch 306 15 = some (.astore_n 2, 0, 0, 0) := rfl
theorem f306_16 : fetch 306 16 = some (.iconst 0, 0, 0, 0) := rfl
theorem f306_17 : fetch 306 17 = some (.istore_n 3, 0, 0, 0) := rfl
set_option maxRecDepth 100000 in
theorem ct1 (d : Nat) : ex d 83 (ent 83 [.ref 33] (hb L xs 3)) = some (none, hb L xs 13) := by
  rw [show ent 83 [.ref 33] (hb L xs 3) = (0, [some (.ref 33)], [], hb L xs 3) from rfl]
  refine e_aload_n f83_0 rfl ?_
  refine e_obj f83_1 rfl (Nat.le_of_ble_eq_true rfl) ?_
  refine e_aload_n f83_4 rfl ?_
  refine e_bipush (v := 20) f83_5 (by decide) ?_
  refine e_newarray (n := 20) f83_7 (by decide) ?_
  rw [show (20 : Int32).toNatClampNeg = 20 from rfl, hb_id (j := 3) (m := 34) (by decide) (by decide +kernel), hb_new (j := 3) (by decide) (by decide +kernel)]
  refine e_putR f83_9 (hb_T (j := 4) (by decide) (by decide +kernel) (by decide +kernel)) rfl ?_
  rw [hb_put (j := 4) (by decide) (by decide +kernel)]
  refine e_aload_n f83_12 rfl ?_
  refine e_sipush (v := 200) f83_13 (by decide) ?_
  refine e_newarray (n := 200) f83_16 (by decide) ?_
  rw [show (200 : Int32).toNatClampNeg = 200 from rfl, hb_id (j := 5) (m := 35) (by decide) (by decide +kernel), hb_new (j := 5) (by decide) (by decide +kernel)]
  refine e_putR f83_18 (hb_T (j := 6) (by decide) (by decide +kernel) (by decide +kernel)) rfl ?_
  rw [hb_put (j := 6) (by decide) (by decide +kernel)]
  refine e_aload_n f83_21 rfl ?_
  refine e_sipush (v := 200) f83_22 (by decide) ?_
  refine e_newarray (n := 200) f83_25 (by decide) ?_
  rw [show (200 : Int32).toNatClampNeg = 200 from rfl, hb_id (j := 7) (m := 36) (by decide) (by decide +kernel), hb_new (j := 7) (by decide) (by decide +kernel)]
  refine e_putR f83_27 (hb_T (j := 8) (by decide) (by decide +kernel) (by decide +kernel)) rfl ?_
  rw [hb_put (j := 8) (by decide) (by decide +kernel)]
  refine e_aload_n f83_30 rfl ?_
  refine e_sipush (v := 200) f83_31 (by decide) ?_
  refine e_newarray (n := 200) f83_34 (by decide) ?_
  rw [show (200 : Int32).toNatClampNeg = 200 from rfl, hb_id (j := 9) (m := 37) (by decide) (by decide +kernel), hb_new (j := 9) (by decide) (by decide +kernel)]
  refine e_putR f83_36 (hb_T (j := 10) (by decide) (by decide +kernel) (by decide +kernel)) rfl ?_
  rw [hb_put (j := 10) (by decide) (by decide +kernel)]
  refine e_aload_n f83_39 rfl ?_
  refine e_sipush (v := 200) f83_40 (by decide) ?_
  refine e_newarray (n := 200) f83_43 (by decide) ?_
  rw [show (200 : Int32).toNatClampNeg = 200 from rfl, hb_id (j := 11) (m := 38) (by decide) (by decide +kernel), hb_new (j := 11) (by decide) (by decide +kernel)]
  refine e_putR f83_45 (hb_T (j := 12) (by decide) (by decide +kernel) (by decide +kernel)) rfl ?_
  rw [hb_put (j := 12) (by decide) (by decide +kernel)]
  exact e_return f83_48
set_option maxRecDepth 100000 in
theorem ct2 (d : Nat) : ex d 42 (ent 42 [.ref 39, .ref 33] (hb L xs 15)) = some (none, hb L xs 34) := by
  rw [show ent 42 [.ref 39, .ref 33] (hb L xs 15) = (0, [some (.ref 39), some (.ref 33)], [], hb L xs 15) from rfl]
  refine e_aload_n f42_0 rfl ?_
  refine e_obj f42_1 rfl (Nat.le_of_ble_eq_true rfl) ?_
  refine e_aload_n f42_4 rfl ?_
  refine e_bipush (v := 8) f42_5 (by decide) ?_
  refine e_newarray (n := 8) f42_7 (by decide) ?_
  rw [show (8 : Int32).toNatClampNeg = 8 from rfl, hb_id (j := 15) (m := 40) (by decide) (by decide +kernel), hb_new (j := 15) (by decide) (by decide +kernel)]
  refine e_putR f42_9 (hb_T (j := 16) (by decide) (by decide +kernel) (by decide +kernel)) rfl ?_
  rw [hb_put (j := 16) (by decide) (by decide +kernel)]
  refine e_aload_n f42_12 rfl ?_
  refine e_bipush (v := 8) f42_13 (by decide) ?_
  refine e_newarray (n := 8) f42_15 (by decide) ?_
  rw [show (8 : Int32).toNatClampNeg = 8 from rfl, hb_id (j := 17) (m := 41) (by decide) (by decide +kernel), hb_new (j := 17) (by decide) (by decide +kernel)]
  refine e_putR f42_17 (hb_T (j := 18) (by decide) (by decide +kernel) (by decide +kernel)) rfl ?_
  rw [hb_put (j := 18) (by decide) (by decide +kernel)]
  refine e_aload_n f42_20 rfl ?_
  refine e_bipush (v := 8) f42_21 (by decide) ?_
  refine e_newarray (n := 8) f42_23 (by decide) ?_
  rw [show (8 : Int32).toNatClampNeg = 8 from rfl, hb_id (j := 19) (m := 42) (by decide) (by decide +kernel), hb_new (j := 19) (by decide) (by decide +kernel)]
  refine e_putR f42_25 (hb_T (j := 20) (by decide) (by decide +kernel) (by decide +kernel)) rfl ?_
  rw [hb_put (j := 20) (by decide) (by decide +kernel)]
  refine e_aload_n f42_28 rfl ?_
  refine e_bipush (v := 8) f42_29 (by decide) ?_
  refine e_newarray (n := 8) f42_31 (by decide) ?_
  rw [show (8 : Int32).toNatClampNeg = 8 from rfl, hb_id (j := 21) (m := 43) (by decide) (by decide +kernel), hb_new (j := 21) (by decide) (by decide +kernel)]
  refine e_putR f42_33 (hb_T (j := 22) (by decide) (by decide +kernel) (by decide +kernel)) rfl ?_
  rw [hb_put (j := 22) (by decide) (by decide +kernel)]
  refine e_aload_n f42_36 rfl ?_
  refine e_bipush (v := 9) f42_37 (by decide) ?_
  refine e_newarray (n := 9) f42_39 (by decide) ?_
  rw [show (9 : Int32).toNatClampNeg = 9 from rfl, hb_id (j := 23) (m := 44) (by decide) (by decide +kernel), hb_new (j := 23) (by decide) (by decide +kernel)]
  refine e_putR f42_41 (hb_T (j := 24) (by decide) (by decide +kernel) (by decide +kernel)) rfl ?_
  rw [hb_put (j := 24) (by decide) (by decide +kernel)]
  refine e_aload_n f42_44 rfl ?_
  refine e_bipush (v := 8) f42_45 (by decide) ?_
  refine e_newarray (n := 8) f42_47 (by decide) ?_
  rw [show (8 : Int32).toNatClampNeg = 8 from rfl, hb_id (j := 25) (m := 45) (by decide) (by decide +kernel), hb_new (j := 25) (by decide) (by decide +kernel)]
  refine e_putR f42_49 (hb_T (j := 26) (by decide) (by decide +kernel) (by decide +kernel)) rfl ?_
  rw [hb_put (j := 26) (by decide) (by decide +kernel)]
  refine e_aload_n f42_52 rfl ?_
  refine e_bipush (v := 8) f42_53 (by decide) ?_
  refine e_newarray (n := 8) f42_55 (by decide) ?_
  rw [show (8 : Int32).toNatClampNeg = 8 from rfl, hb_id (j := 27) (m := 46) (by decide) (by decide +kernel), hb_new (j := 27) (by decide) (by decide +kernel)]
  refine e_putR f42_57 (hb_T (j := 28) (by decide) (by decide +kernel) (by decide +kernel)) rfl ?_
  rw [hb_put (j := 28) (by decide) (by decide +kernel)]
  refine e_aload_n f42_60 rfl ?_
  refine e_bipush (v := 8) f42_61 (by decide) ?_
  refine e_newarray (n := 8) f42_63 (by decide) ?_
  rw [show (8 : Int32).toNatClampNeg = 8 from rfl, hb_id (j := 29) (m := 47) (by decide) (by decide +kernel), hb_new (j := 29) (by decide) (by decide +kernel)]
  refine e_putR f42_65 (hb_T (j := 30) (by decide) (by decide +kernel) (by decide +kernel)) rfl ?_
  rw [hb_put (j := 30) (by decide) (by decide +kernel)]
  refine e_aload_n f42_68 rfl ?_
  refine e_bipush (v := 8) f42_69 (by decide) ?_
  refine e_newarray (n := 8) f42_71 (by decide) ?_
  rw [show (8 : Int32).toNatClampNeg = 8 from rfl, hb_id (j := 31) (m := 48) (by decide) (by decide +kernel), hb_new (j := 31) (by decide) (by decide +kernel)]
  refine e_putR f42_73 (hb_T (j := 32) (by decide) (by decide +kernel) (by decide +kernel)) rfl ?_
  rw [hb_put (j := 32) (by decide) (by decide +kernel)]
  refine e_aload_n f42_76 rfl ?_
  refine e_aload_n f42_77 rfl ?_
  refine e_putR f42_78 (hb_T (j := 33) (by decide) (by decide +kernel) (by decide +kernel)) rfl ?_
  rw [hb_put (j := 33) (by decide) (by decide +kernel)]
  exact e_return f42_81
set_option maxRecDepth 100000 in
theorem ct3 (d : Nat) : ex d 0 (ent 0 [.ref 50] (hb L xs 38)) = some (none, hb L xs 50) := by
  rw [show ent 0 [.ref 50] (hb L xs 38) = (0, [some (.ref 50)], [], hb L xs 38) from rfl]
  refine e_aload_n f0_0 rfl ?_
  refine e_obj f0_1 rfl (Nat.le_of_ble_eq_true rfl) ?_
  refine e_aload_n f0_4 rfl ?_
  refine e_bipush (v := 40) f0_5 (by decide) ?_
  refine e_newarray (n := 40) f0_7 (by decide) ?_
  rw [show (40 : Int32).toNatClampNeg = 40 from rfl, hb_id (j := 38) (m := 51) (by decide) (by decide +kernel), hb_new (j := 38) (by decide) (by decide +kernel)]
  refine e_putR f0_9 (hb_T (j := 39) (by decide) (by decide +kernel) (by decide +kernel)) rfl ?_
  rw [hb_put (j := 39) (by decide) (by decide +kernel)]
  refine e_aload_n f0_12 rfl ?_
  refine e_bipush (v := 32) f0_13 (by decide) ?_
  refine e_newarray (n := 32) f0_15 (by decide) ?_
  rw [show (32 : Int32).toNatClampNeg = 32 from rfl, hb_id (j := 40) (m := 52) (by decide) (by decide +kernel), hb_new (j := 40) (by decide) (by decide +kernel)]
  refine e_putR f0_17 (hb_T (j := 41) (by decide) (by decide +kernel) (by decide +kernel)) rfl ?_
  rw [hb_put (j := 41) (by decide) (by decide +kernel)]
  refine e_aload_n f0_20 rfl ?_
  refine e_sipush (v := 400) f0_21 (by decide) ?_
  refine e_anewarray (n := 400) f0_24 (by decide) ?_
  rw [show (400 : Int32).toNatClampNeg = 400 from rfl, hb_id (j := 42) (m := 53) (by decide) (by decide +kernel), hb_new (j := 42) (by decide) (by decide +kernel)]
  refine e_putR f0_27 (hb_T (j := 43) (by decide) (by decide +kernel) (by decide +kernel)) rfl ?_
  rw [hb_put (j := 43) (by decide) (by decide +kernel)]
  refine e_aload_n f0_30 rfl ?_
  refine e_sipush (v := 200) f0_31 (by decide) ?_
  refine e_anewarray (n := 200) f0_34 (by decide) ?_
  rw [show (200 : Int32).toNatClampNeg = 200 from rfl, hb_id (j := 44) (m := 54) (by decide) (by decide +kernel), hb_new (j := 44) (by decide) (by decide +kernel)]
  refine e_putR f0_37 (hb_T (j := 45) (by decide) (by decide +kernel) (by decide +kernel)) rfl ?_
  rw [hb_put (j := 45) (by decide) (by decide +kernel)]
  refine e_aload_n f0_40 rfl ?_
  refine e_sipush (v := 200) f0_41 (by decide) ?_
  refine e_anewarray (n := 200) f0_44 (by decide) ?_
  rw [show (200 : Int32).toNatClampNeg = 200 from rfl, hb_id (j := 46) (m := 55) (by decide) (by decide +kernel), hb_new (j := 46) (by decide) (by decide +kernel)]
  refine e_putR f0_47 (hb_T (j := 47) (by decide) (by decide +kernel) (by decide +kernel)) rfl ?_
  rw [hb_put (j := 47) (by decide) (by decide +kernel)]
  refine e_aload_n f0_50 rfl ?_
  refine e_sipush (v := 200) f0_51 (by decide) ?_
  refine e_newarray (n := 200) f0_54 (by decide) ?_
  rw [show (200 : Int32).toNatClampNeg = 200 from rfl, hb_id (j := 48) (m := 56) (by decide) (by decide +kernel), hb_new (j := 48) (by decide) (by decide +kernel)]
  refine e_putR f0_56 (hb_T (j := 49) (by decide) (by decide +kernel) (by decide +kernel)) rfl ?_
  rw [hb_put (j := 49) (by decide) (by decide +kernel)]
  exact e_return f0_59
set_option maxRecDepth 100000 in
theorem ct4 (d : Nat) : ex d 100 (ent 100 [.ref 57] (hb L xs 52)) = some (none, hb L xs 58) := by
  rw [show ent 100 [.ref 57] (hb L xs 52) = (0, [some (.ref 57)], [], hb L xs 52) from rfl]
  refine e_aload_n f100_0 rfl ?_
  refine e_obj f100_1 rfl (Nat.le_of_ble_eq_true rfl) ?_
  refine e_aload_n f100_4 rfl ?_
  refine e_sipush (v := 400) f100_5 (by decide) ?_
  refine e_newarray (n := 400) f100_8 (by decide) ?_
  rw [show (400 : Int32).toNatClampNeg = 400 from rfl, hb_id (j := 52) (m := 58) (by decide) (by decide +kernel), hb_new (j := 52) (by decide) (by decide +kernel)]
  refine e_putR f100_10 (hb_T (j := 53) (by decide) (by decide +kernel) (by decide +kernel)) rfl ?_
  rw [hb_put (j := 53) (by decide) (by decide +kernel)]
  refine e_aload_n f100_13 rfl ?_
  refine e_sipush (v := 401) f100_14 (by decide) ?_
  refine e_newarray (n := 401) f100_17 (by decide) ?_
  rw [show (401 : Int32).toNatClampNeg = 401 from rfl, hb_id (j := 54) (m := 59) (by decide) (by decide +kernel), hb_new (j := 54) (by decide) (by decide +kernel)]
  refine e_putR f100_19 (hb_T (j := 55) (by decide) (by decide +kernel) (by decide +kernel)) rfl ?_
  rw [hb_put (j := 55) (by decide) (by decide +kernel)]
  refine e_aload_n f100_22 rfl ?_
  refine e_sipush (v := 401) f100_23 (by decide) ?_
  refine e_newarray (n := 401) f100_26 (by decide) ?_
  rw [show (401 : Int32).toNatClampNeg = 401 from rfl, hb_id (j := 56) (m := 60) (by decide) (by decide +kernel), hb_new (j := 56) (by decide) (by decide +kernel)]
  refine e_putR f100_28 (hb_T (j := 57) (by decide) (by decide +kernel) (by decide +kernel)) rfl ?_
  rw [hb_put (j := 57) (by decide) (by decide +kernel)]
  exact e_return f100_31
set_option maxRecDepth 100000 in
theorem ct5 (d : Nat) : ex d 29 (ent 29 [.ref 61, .ref 57] (hb L xs 60)) = some (none, hb L xs 70) := by
  rw [show ent 29 [.ref 61, .ref 57] (hb L xs 60) = (0, [some (.ref 61), some (.ref 57)], [], hb L xs 60) from rfl]
  refine e_aload_n f29_0 rfl ?_
  refine e_obj f29_1 rfl (Nat.le_of_ble_eq_true rfl) ?_
  refine e_aload_n f29_4 rfl ?_
  refine e_bipush (v := 12) f29_5 (by decide) ?_
  refine e_newarray (n := 12) f29_7 (by decide) ?_
  rw [show (12 : Int32).toNatClampNeg = 12 from rfl, hb_id (j := 60) (m := 62) (by decide) (by decide +kernel), hb_new (j := 60) (by decide) (by decide +kernel)]
  refine e_putR f29_9 (hb_T (j := 61) (by decide) (by decide +kernel) (by decide +kernel)) rfl ?_
  rw [hb_put (j := 61) (by decide) (by decide +kernel)]
  refine e_aload_n f29_12 rfl ?_
  refine e_bipush (v := 12) f29_13 (by decide) ?_
  refine e_newarray (n := 12) f29_15 (by decide) ?_
  rw [show (12 : Int32).toNatClampNeg = 12 from rfl, hb_id (j := 62) (m := 63) (by decide) (by decide +kernel), hb_new (j := 62) (by decide) (by decide +kernel)]
  refine e_putR f29_17 (hb_T (j := 63) (by decide) (by decide +kernel) (by decide +kernel)) rfl ?_
  rw [hb_put (j := 63) (by decide) (by decide +kernel)]
  refine e_aload_n f29_20 rfl ?_
  refine e_bipush (v := 12) f29_21 (by decide) ?_
  refine e_newarray (n := 12) f29_23 (by decide) ?_
  rw [show (12 : Int32).toNatClampNeg = 12 from rfl, hb_id (j := 64) (m := 64) (by decide) (by decide +kernel), hb_new (j := 64) (by decide) (by decide +kernel)]
  refine e_putR f29_25 (hb_T (j := 65) (by decide) (by decide +kernel) (by decide +kernel)) rfl ?_
  rw [hb_put (j := 65) (by decide) (by decide +kernel)]
  refine e_aload_n f29_28 rfl ?_
  refine e_sipush (v := 400) f29_29 (by decide) ?_
  refine e_newarray (n := 400) f29_32 (by decide) ?_
  rw [show (400 : Int32).toNatClampNeg = 400 from rfl, hb_id (j := 66) (m := 65) (by decide) (by decide +kernel), hb_new (j := 66) (by decide) (by decide +kernel)]
  refine e_putR f29_34 (hb_T (j := 67) (by decide) (by decide +kernel) (by decide +kernel)) rfl ?_
  rw [hb_put (j := 67) (by decide) (by decide +kernel)]
  refine e_aload_n f29_37 rfl ?_
  refine e_aload_n f29_38 rfl ?_
  refine e_getR (q := 59) f29_39 (hb_T (j := 68) (by decide) (by decide +kernel) (by decide +kernel)) rfl (hb_R (j := 68) (by decide) (by decide +kernel)) ?_
  refine e_putR f29_42 (hb_T (j := 68) (by decide) (by decide +kernel) (by decide +kernel)) rfl ?_
  rw [hb_put (j := 68) (by decide) (by decide +kernel)]
  refine e_aload_n f29_45 rfl ?_
  refine e_aload_n f29_46 rfl ?_
  refine e_getR (q := 60) f29_47 (hb_T (j := 69) (by decide) (by decide +kernel) (by decide +kernel)) rfl (hb_R (j := 69) (by decide) (by decide +kernel)) ?_
  refine e_putR f29_50 (hb_T (j := 69) (by decide) (by decide +kernel) (by decide +kernel)) rfl ?_
  rw [hb_put (j := 69) (by decide) (by decide +kernel)]
  exact e_return f29_53
set_option maxRecDepth 100000 in
theorem ct6 (d : Nat) : ex d 60 (ent 60 [.ref 68] (hb L xs 76)) = some (none, hb L xs 92) := by
  rw [show ent 60 [.ref 68] (hb L xs 76) = (0, [some (.ref 68)], [], hb L xs 76) from rfl]
  refine e_aload_n f60_0 rfl ?_
  refine e_obj f60_1 rfl (Nat.le_of_ble_eq_true rfl) ?_
  refine e_aload_n f60_4 rfl ?_
  refine e_bipush (v := 60) f60_5 (by decide) ?_
  refine e_newarray (n := 60) f60_7 (by decide) ?_
  rw [show (60 : Int32).toNatClampNeg = 60 from rfl, hb_id (j := 76) (m := 69) (by decide) (by decide +kernel), hb_new (j := 76) (by decide) (by decide +kernel)]
  refine e_putR f60_9 (hb_T (j := 77) (by decide) (by decide +kernel) (by decide +kernel)) rfl ?_
  rw [hb_put (j := 77) (by decide) (by decide +kernel)]
  refine e_aload_n f60_12 rfl ?_
  refine e_bipush (v := 60) f60_13 (by decide) ?_
  refine e_newarray (n := 60) f60_15 (by decide) ?_
  rw [show (60 : Int32).toNatClampNeg = 60 from rfl, hb_id (j := 78) (m := 70) (by decide) (by decide +kernel), hb_new (j := 78) (by decide) (by decide +kernel)]
  refine e_putR f60_17 (hb_T (j := 79) (by decide) (by decide +kernel) (by decide +kernel)) rfl ?_
  rw [hb_put (j := 79) (by decide) (by decide +kernel)]
  refine e_aload_n f60_20 rfl ?_
  refine e_bipush (v := 60) f60_21 (by decide) ?_
  refine e_newarray (n := 60) f60_23 (by decide) ?_
  rw [show (60 : Int32).toNatClampNeg = 60 from rfl, hb_id (j := 80) (m := 71) (by decide) (by decide +kernel), hb_new (j := 80) (by decide) (by decide +kernel)]
  refine e_putR f60_25 (hb_T (j := 81) (by decide) (by decide +kernel) (by decide +kernel)) rfl ?_
  rw [hb_put (j := 81) (by decide) (by decide +kernel)]
  refine e_aload_n f60_28 rfl ?_
  refine e_bipush (v := 60) f60_29 (by decide) ?_
  refine e_newarray (n := 60) f60_31 (by decide) ?_
  rw [show (60 : Int32).toNatClampNeg = 60 from rfl, hb_id (j := 82) (m := 72) (by decide) (by decide +kernel), hb_new (j := 82) (by decide) (by decide +kernel)]
  refine e_putR f60_33 (hb_T (j := 83) (by decide) (by decide +kernel) (by decide +kernel)) rfl ?_
  rw [hb_put (j := 83) (by decide) (by decide +kernel)]
  refine e_aload_n f60_36 rfl ?_
  refine e_bipush (v := 60) f60_37 (by decide) ?_
  refine e_newarray (n := 60) f60_39 (by decide) ?_
  rw [show (60 : Int32).toNatClampNeg = 60 from rfl, hb_id (j := 84) (m := 73) (by decide) (by decide +kernel), hb_new (j := 84) (by decide) (by decide +kernel)]
  refine e_putR f60_41 (hb_T (j := 85) (by decide) (by decide +kernel) (by decide +kernel)) rfl ?_
  rw [hb_put (j := 85) (by decide) (by decide +kernel)]
  refine e_aload_n f60_44 rfl ?_
  refine e_bipush (v := 60) f60_45 (by decide) ?_
  refine e_newarray (n := 60) f60_47 (by decide) ?_
  rw [show (60 : Int32).toNatClampNeg = 60 from rfl, hb_id (j := 86) (m := 74) (by decide) (by decide +kernel), hb_new (j := 86) (by decide) (by decide +kernel)]
  refine e_putR f60_49 (hb_T (j := 87) (by decide) (by decide +kernel) (by decide +kernel)) rfl ?_
  rw [hb_put (j := 87) (by decide) (by decide +kernel)]
  refine e_aload_n f60_52 rfl ?_
  refine e_bipush (v := 60) f60_53 (by decide) ?_
  refine e_newarray (n := 60) f60_55 (by decide) ?_
  rw [show (60 : Int32).toNatClampNeg = 60 from rfl, hb_id (j := 88) (m := 75) (by decide) (by decide +kernel), hb_new (j := 88) (by decide) (by decide +kernel)]
  refine e_putR f60_57 (hb_T (j := 89) (by decide) (by decide +kernel) (by decide +kernel)) rfl ?_
  rw [hb_put (j := 89) (by decide) (by decide +kernel)]
  refine e_aload_n f60_60 rfl ?_
  refine e_bipush (v := 60) f60_61 (by decide) ?_
  refine e_newarray (n := 60) f60_63 (by decide) ?_
  rw [show (60 : Int32).toNatClampNeg = 60 from rfl, hb_id (j := 90) (m := 76) (by decide) (by decide +kernel), hb_new (j := 90) (by decide) (by decide +kernel)]
  refine e_putR f60_65 (hb_T (j := 91) (by decide) (by decide +kernel) (by decide +kernel)) rfl ?_
  rw [hb_put (j := 91) (by decide) (by decide +kernel)]
  exact e_return f60_68
set_option maxRecDepth 100000 in
theorem ct7 (d : Nat) : ex d 73 (ent 73 [.ref 77, .ref 33] (hb L xs 94)) = some (none, hb L xs 109) := by
  rw [show ent 73 [.ref 77, .ref 33] (hb L xs 94) = (0, [some (.ref 77), some (.ref 33)], [], hb L xs 94) from rfl]
  refine e_aload_n f73_0 rfl ?_
  refine e_obj f73_1 rfl (Nat.le_of_ble_eq_true rfl) ?_
  refine e_aload_n f73_4 rfl ?_
  refine e_bipush (v := 12) f73_5 (by decide) ?_
  refine e_newarray (n := 12) f73_7 (by decide) ?_
  rw [show (12 : Int32).toNatClampNeg = 12 from rfl, hb_id (j := 94) (m := 78) (by decide) (by decide +kernel), hb_new (j := 94) (by decide) (by decide +kernel)]
  refine e_putR f73_9 (hb_T (j := 95) (by decide) (by decide +kernel) (by decide +kernel)) rfl ?_
  rw [hb_put (j := 95) (by decide) (by decide +kernel)]
  refine e_aload_n f73_12 rfl ?_
  refine e_bipush (v := 12) f73_13 (by decide) ?_
  refine e_newarray (n := 12) f73_15 (by decide) ?_
  rw [show (12 : Int32).toNatClampNeg = 12 from rfl, hb_id (j := 96) (m := 79) (by decide) (by decide +kernel), hb_new (j := 96) (by decide) (by decide +kernel)]
  refine e_putR f73_17 (hb_T (j := 97) (by decide) (by decide +kernel) (by decide +kernel)) rfl ?_
  rw [hb_put (j := 97) (by decide) (by decide +kernel)]
  refine e_aload_n f73_20 rfl ?_
  refine e_bipush (v := 9) f73_21 (by decide) ?_
  refine e_newarray (n := 9) f73_23 (by decide) ?_
  rw [show (9 : Int32).toNatClampNeg = 9 from rfl, hb_id (j := 98) (m := 80) (by decide) (by decide +kernel), hb_new (j := 98) (by decide) (by decide +kernel)]
  refine e_putR f73_25 (hb_T (j := 99) (by decide) (by decide +kernel) (by decide +kernel)) rfl ?_
  rw [hb_put (j := 99) (by decide) (by decide +kernel)]
  refine e_aload_n f73_28 rfl ?_
  refine e_bipush (v := 9) f73_29 (by decide) ?_
  refine e_newarray (n := 9) f73_31 (by decide) ?_
  rw [show (9 : Int32).toNatClampNeg = 9 from rfl, hb_id (j := 100) (m := 81) (by decide) (by decide +kernel), hb_new (j := 100) (by decide) (by decide +kernel)]
  refine e_putR f73_33 (hb_T (j := 101) (by decide) (by decide +kernel) (by decide +kernel)) rfl ?_
  rw [hb_put (j := 101) (by decide) (by decide +kernel)]
  refine e_aload_n f73_36 rfl ?_
  refine e_sipush (v := 512) f73_37 (by decide) ?_
  refine e_newarray (n := 512) f73_40 (by decide) ?_
  rw [show (512 : Int32).toNatClampNeg = 512 from rfl, hb_id (j := 102) (m := 82) (by decide) (by decide +kernel), hb_new (j := 102) (by decide) (by decide +kernel)]
  refine e_putR f73_42 (hb_T (j := 103) (by decide) (by decide +kernel) (by decide +kernel)) rfl ?_
  rw [hb_put (j := 103) (by decide) (by decide +kernel)]
  refine e_aload_n f73_45 rfl ?_
  refine e_sipush (v := 512) f73_46 (by decide) ?_
  refine e_newarray (n := 512) f73_49 (by decide) ?_
  rw [show (512 : Int32).toNatClampNeg = 512 from rfl, hb_id (j := 104) (m := 83) (by decide) (by decide +kernel), hb_new (j := 104) (by decide) (by decide +kernel)]
  refine e_putR f73_51 (hb_T (j := 105) (by decide) (by decide +kernel) (by decide +kernel)) rfl ?_
  rw [hb_put (j := 105) (by decide) (by decide +kernel)]
  refine e_aload_n f73_54 rfl ?_
  refine e_sipush (v := 512) f73_55 (by decide) ?_
  refine e_newarray (n := 512) f73_58 (by decide) ?_
  rw [show (512 : Int32).toNatClampNeg = 512 from rfl, hb_id (j := 106) (m := 84) (by decide) (by decide +kernel), hb_new (j := 106) (by decide) (by decide +kernel)]
  refine e_putR f73_60 (hb_T (j := 107) (by decide) (by decide +kernel) (by decide +kernel)) rfl ?_
  rw [hb_put (j := 107) (by decide) (by decide +kernel)]
  refine e_aload_n f73_63 rfl ?_
  refine e_aload_n f73_64 rfl ?_
  refine e_putR f73_65 (hb_T (j := 108) (by decide) (by decide +kernel) (by decide +kernel)) rfl ?_
  rw [hb_put (j := 108) (by decide) (by decide +kernel)]
  exact e_return f73_68
set_option maxRecDepth 100000 in
theorem ct8 (d : Nat) : ex (d + 1) 113 (ent 113 [.ref 32] (hb L xs 1)) = some (none, hb L xs 112) := by
  rw [show ent 113 [.ref 32] (hb L xs 1) = (0, [some (.ref 32)], [], hb L xs 1) from rfl]
  refine e_aload_n f113_0 rfl ?_
  refine e_obj f113_1 rfl (Nat.le_of_ble_eq_true rfl) ?_
  refine e_aload_n f113_4 rfl ?_
  refine e_iconst (v := -1) f113_5 (by decide) ?_
  refine e_putI f113_6 (hb_T (j := 1) (by decide) (by decide +kernel) (by decide +kernel)) rfl ?_
  rw [hb_int (j := 1) (by decide) (by decide +kernel)]
  refine e_aload_n f113_9 rfl ?_
  refine e_new f113_10 ?_
  rw [hb_id (j := 2) (m := 33) (by decide) (by decide +kernel), hb_new (j := 2) (by decide) (by decide +kernel)]
  refine e_dup f113_13 rfl ?_
  refine e_callI (st := [.ref 33, .ref 32]) (o := 33) (as := []) f113_14 (by decide) rfl rfl (Nat.le_of_ble_eq_true rfl) (hb_T (j := 3) (by decide) (by decide +kernel) (by decide +kernel)) (Nat.le_of_ble_eq_true rfl) (ct1 d) ?_
  refine e_putR f113_17 (hb_T (j := 13) (by decide) (by decide +kernel) (by decide +kernel)) rfl ?_
  rw [hb_put (j := 13) (by decide) (by decide +kernel)]
  refine e_aload_n f113_20 rfl ?_
  refine e_new f113_21 ?_
  rw [hb_id (j := 14) (m := 39) (by decide) (by decide +kernel), hb_new (j := 14) (by decide) (by decide +kernel)]
  refine e_dup f113_24 rfl ?_
  refine e_aload_n f113_25 rfl ?_
  refine e_getR (q := 33) f113_26 (hb_T (j := 15) (by decide) (by decide +kernel) (by decide +kernel)) rfl (hb_R (j := 15) (by decide) (by decide +kernel)) ?_
  refine e_callI (st := [.ref 39, .ref 32]) (o := 39) (as := [.ref 33]) f113_29 (by decide) rfl rfl (Nat.le_of_ble_eq_true rfl) (hb_T (j := 15) (by decide) (by decide +kernel) (by decide +kernel)) (Nat.le_of_ble_eq_true rfl) (ct2 d) ?_
  refine e_putR f113_32 (hb_T (j := 34) (by decide) (by decide +kernel) (by decide +kernel)) rfl ?_
  rw [hb_put (j := 34) (by decide) (by decide +kernel)]
  refine e_aload_n f113_35 rfl ?_
  refine e_sipush (v := 200) f113_36 (by decide) ?_
  refine e_anewarray (n := 200) f113_39 (by decide) ?_
  rw [show (200 : Int32).toNatClampNeg = 200 from rfl, hb_id (j := 35) (m := 49) (by decide) (by decide +kernel), hb_new (j := 35) (by decide) (by decide +kernel)]
  refine e_putR f113_42 (hb_T (j := 36) (by decide) (by decide +kernel) (by decide +kernel)) rfl ?_
  rw [hb_put (j := 36) (by decide) (by decide +kernel)]
  refine e_aload_n f113_45 rfl ?_
  refine e_new f113_46 ?_
  rw [hb_id (j := 37) (m := 50) (by decide) (by decide +kernel), hb_new (j := 37) (by decide) (by decide +kernel)]
  refine e_dup f113_49 rfl ?_
  refine e_callI (st := [.ref 50, .ref 32]) (o := 50) (as := []) f113_50 (by decide) rfl rfl (Nat.le_of_ble_eq_true rfl) (hb_T (j := 38) (by decide) (by decide +kernel) (by decide +kernel)) (Nat.le_of_ble_eq_true rfl) (ct3 d) ?_
  refine e_putR f113_53 (hb_T (j := 50) (by decide) (by decide +kernel) (by decide +kernel)) rfl ?_
  rw [hb_put (j := 50) (by decide) (by decide +kernel)]
  refine e_aload_n f113_56 rfl ?_
  refine e_new f113_57 ?_
  rw [hb_id (j := 51) (m := 57) (by decide) (by decide +kernel), hb_new (j := 51) (by decide) (by decide +kernel)]
  refine e_dup f113_60 rfl ?_
  refine e_callI (st := [.ref 57, .ref 32]) (o := 57) (as := []) f113_61 (by decide) rfl rfl (Nat.le_of_ble_eq_true rfl) (hb_T (j := 52) (by decide) (by decide +kernel) (by decide +kernel)) (Nat.le_of_ble_eq_true rfl) (ct4 d) ?_
  refine e_putR f113_64 (hb_T (j := 58) (by decide) (by decide +kernel) (by decide +kernel)) rfl ?_
  rw [hb_put (j := 58) (by decide) (by decide +kernel)]
  refine e_aload_n f113_67 rfl ?_
  refine e_new f113_68 ?_
  rw [hb_id (j := 59) (m := 61) (by decide) (by decide +kernel), hb_new (j := 59) (by decide) (by decide +kernel)]
  refine e_dup f113_71 rfl ?_
  refine e_aload_n f113_72 rfl ?_
  refine e_getR (q := 57) f113_73 (hb_T (j := 60) (by decide) (by decide +kernel) (by decide +kernel)) rfl (hb_R (j := 60) (by decide) (by decide +kernel)) ?_
  refine e_callI (st := [.ref 61, .ref 32]) (o := 61) (as := [.ref 57]) f113_76 (by decide) rfl rfl (Nat.le_of_ble_eq_true rfl) (hb_T (j := 60) (by decide) (by decide +kernel) (by decide +kernel)) (Nat.le_of_ble_eq_true rfl) (ct5 d) ?_
  refine e_putR f113_79 (hb_T (j := 70) (by decide) (by decide +kernel) (by decide +kernel)) rfl ?_
  rw [hb_put (j := 70) (by decide) (by decide +kernel)]
  refine e_aload_n f113_82 rfl ?_
  refine e_bipush (v := 20) f113_83 (by decide) ?_
  refine e_anewarray (n := 20) f113_85 (by decide) ?_
  rw [show (20 : Int32).toNatClampNeg = 20 from rfl, hb_id (j := 71) (m := 66) (by decide) (by decide +kernel), hb_new (j := 71) (by decide) (by decide +kernel)]
  refine e_putR f113_88 (hb_T (j := 72) (by decide) (by decide +kernel) (by decide +kernel)) rfl ?_
  rw [hb_put (j := 72) (by decide) (by decide +kernel)]
  refine e_aload_n f113_91 rfl ?_
  refine e_bipush (v := 30) f113_92 (by decide) ?_
  refine e_anewarray (n := 30) f113_94 (by decide) ?_
  rw [show (30 : Int32).toNatClampNeg = 30 from rfl, hb_id (j := 73) (m := 67) (by decide) (by decide +kernel), hb_new (j := 73) (by decide) (by decide +kernel)]
  refine e_putR f113_97 (hb_T (j := 74) (by decide) (by decide +kernel) (by decide +kernel)) rfl ?_
  rw [hb_put (j := 74) (by decide) (by decide +kernel)]
  refine e_aload_n f113_100 rfl ?_
  refine e_new f113_101 ?_
  rw [hb_id (j := 75) (m := 68) (by decide) (by decide +kernel), hb_new (j := 75) (by decide) (by decide +kernel)]
  refine e_dup f113_104 rfl ?_
  refine e_callI (st := [.ref 68, .ref 32]) (o := 68) (as := []) f113_105 (by decide) rfl rfl (Nat.le_of_ble_eq_true rfl) (hb_T (j := 76) (by decide) (by decide +kernel) (by decide +kernel)) (Nat.le_of_ble_eq_true rfl) (ct6 d) ?_
  refine e_putR f113_108 (hb_T (j := 92) (by decide) (by decide +kernel) (by decide +kernel)) rfl ?_
  rw [hb_put (j := 92) (by decide) (by decide +kernel)]
  refine e_aload_n f113_111 rfl ?_
  refine e_new f113_112 ?_
  rw [hb_id (j := 93) (m := 77) (by decide) (by decide +kernel), hb_new (j := 93) (by decide) (by decide +kernel)]
  refine e_dup f113_115 rfl ?_
  refine e_aload_n f113_116 rfl ?_
  refine e_getR (q := 33) f113_117 (hb_T (j := 94) (by decide) (by decide +kernel) (by decide +kernel)) rfl (hb_R (j := 94) (by decide) (by decide +kernel)) ?_
  refine e_callI (st := [.ref 77, .ref 32]) (o := 77) (as := [.ref 33]) f113_120 (by decide) rfl rfl (Nat.le_of_ble_eq_true rfl) (hb_T (j := 94) (by decide) (by decide +kernel) (by decide +kernel)) (Nat.le_of_ble_eq_true rfl) (ct7 d) ?_
  refine e_putR f113_123 (hb_T (j := 109) (by decide) (by decide +kernel) (by decide +kernel)) rfl ?_
  rw [hb_put (j := 109) (by decide) (by decide +kernel)]
  refine e_aload_n f113_126 rfl ?_
  refine e_bipush (v := 11) f113_127 (by decide) ?_
  refine e_newarray (n := 11) f113_129 (by decide) ?_
  rw [show (11 : Int32).toNatClampNeg = 11 from rfl, hb_id (j := 110) (m := 85) (by decide) (by decide +kernel), hb_new (j := 110) (by decide) (by decide +kernel)]
  refine e_putR f113_131 (hb_T (j := 111) (by decide) (by decide +kernel) (by decide +kernel)) rfl ?_
  rw [hb_put (j := 111) (by decide) (by decide +kernel)]
  exact e_return f113_134
set_option maxRecDepth 100000 in
theorem ct9 (d : Nat) : ex d 186 (ent 186 [.ref 86] (hb L xs 113)) = some (none, hb L xs 260) := by
  rw [show ent 186 [.ref 86] (hb L xs 113) = (0, [some (.ref 86)], [], hb L xs 113) from rfl]
  refine e_aload_n f186_0 rfl ?_
  refine e_obj f186_1 rfl (Nat.le_of_ble_eq_true rfl) ?_
  refine e_aload_n f186_4 rfl ?_
  refine e_bipush (v := 20) f186_5 (by decide) ?_
  refine e_newarray (n := 20) f186_7 (by decide) ?_
  rw [show (20 : Int32).toNatClampNeg = 20 from rfl, hb_id (j := 113) (m := 87) (by decide) (by decide +kernel), hb_new (j := 113) (by decide) (by decide +kernel)]
  refine e_putR f186_9 (hb_T (j := 114) (by decide) (by decide +kernel) (by decide +kernel)) rfl ?_
  rw [hb_put (j := 114) (by decide) (by decide +kernel)]
  refine e_aload_n f186_12 rfl ?_
  refine e_sipush (v := 200) f186_13 (by decide) ?_
  refine e_newarray (n := 200) f186_16 (by decide) ?_
  rw [show (200 : Int32).toNatClampNeg = 200 from rfl, hb_id (j := 115) (m := 88) (by decide) (by decide +kernel), hb_new (j := 115) (by decide) (by decide +kernel)]
  refine e_putR f186_18 (hb_T (j := 116) (by decide) (by decide +kernel) (by decide +kernel)) rfl ?_
  rw [hb_put (j := 116) (by decide) (by decide +kernel)]
  refine e_aload_n f186_21 rfl ?_
  refine e_sipush (v := 200) f186_22 (by decide) ?_
  refine e_newarray (n := 200) f186_25 (by decide) ?_
  rw [show (200 : Int32).toNatClampNeg = 200 from rfl, hb_id (j := 117) (m := 89) (by decide) (by decide +kernel), hb_new (j := 117) (by decide) (by decide +kernel)]
  refine e_putR f186_27 (hb_T (j := 118) (by decide) (by decide +kernel) (by decide +kernel)) rfl ?_
  rw [hb_put (j := 118) (by decide) (by decide +kernel)]
  refine e_aload_n f186_30 rfl ?_
  refine e_sipush (v := 800) f186_31 (by decide) ?_
  refine e_newarray (n := 800) f186_34 (by decide) ?_
  rw [show (800 : Int32).toNatClampNeg = 800 from rfl, hb_id (j := 119) (m := 90) (by decide) (by decide +kernel), hb_new (j := 119) (by decide) (by decide +kernel)]
  refine e_putR f186_36 (hb_T (j := 120) (by decide) (by decide +kernel) (by decide +kernel)) rfl ?_
  rw [hb_put (j := 120) (by decide) (by decide +kernel)]
  refine e_aload_n f186_39 rfl ?_
  refine e_sipush (v := 200) f186_40 (by decide) ?_
  refine e_newarray (n := 200) f186_43 (by decide) ?_
  rw [show (200 : Int32).toNatClampNeg = 200 from rfl, hb_id (j := 121) (m := 91) (by decide) (by decide +kernel), hb_new (j := 121) (by decide) (by decide +kernel)]
  refine e_putR f186_45 (hb_T (j := 122) (by decide) (by decide +kernel) (by decide +kernel)) rfl ?_
  rw [hb_put (j := 122) (by decide) (by decide +kernel)]
  refine e_aload_n f186_48 rfl ?_
  refine e_bipush (v := 8) f186_49 (by decide) ?_
  refine e_newarray (n := 8) f186_51 (by decide) ?_
  rw [show (8 : Int32).toNatClampNeg = 8 from rfl, hb_id (j := 123) (m := 92) (by decide) (by decide +kernel), hb_new (j := 123) (by decide) (by decide +kernel)]
  refine e_putR f186_53 (hb_T (j := 124) (by decide) (by decide +kernel) (by decide +kernel)) rfl ?_
  rw [hb_put (j := 124) (by decide) (by decide +kernel)]
  refine e_aload_n f186_56 rfl ?_
  refine e_bipush (v := 8) f186_57 (by decide) ?_
  refine e_newarray (n := 8) f186_59 (by decide) ?_
  rw [show (8 : Int32).toNatClampNeg = 8 from rfl, hb_id (j := 125) (m := 93) (by decide) (by decide +kernel), hb_new (j := 125) (by decide) (by decide +kernel)]
  refine e_putR f186_61 (hb_T (j := 126) (by decide) (by decide +kernel) (by decide +kernel)) rfl ?_
  rw [hb_put (j := 126) (by decide) (by decide +kernel)]
  refine e_aload_n f186_64 rfl ?_
  refine e_bipush (v := 8) f186_65 (by decide) ?_
  refine e_newarray (n := 8) f186_67 (by decide) ?_
  rw [show (8 : Int32).toNatClampNeg = 8 from rfl, hb_id (j := 127) (m := 94) (by decide) (by decide +kernel), hb_new (j := 127) (by decide) (by decide +kernel)]
  refine e_putR f186_69 (hb_T (j := 128) (by decide) (by decide +kernel) (by decide +kernel)) rfl ?_
  rw [hb_put (j := 128) (by decide) (by decide +kernel)]
  refine e_aload_n f186_72 rfl ?_
  refine e_sipush (v := 200) f186_73 (by decide) ?_
  refine e_newarray (n := 200) f186_76 (by decide) ?_
  rw [show (200 : Int32).toNatClampNeg = 200 from rfl, hb_id (j := 129) (m := 95) (by decide) (by decide +kernel), hb_new (j := 129) (by decide) (by decide +kernel)]
  refine e_putR f186_78 (hb_T (j := 130) (by decide) (by decide +kernel) (by decide +kernel)) rfl ?_
  rw [hb_put (j := 130) (by decide) (by decide +kernel)]
  refine e_aload_n f186_81 rfl ?_
  refine e_sipush (v := 200) f186_82 (by decide) ?_
  refine e_newarray (n := 200) f186_85 (by decide) ?_
  rw [show (200 : Int32).toNatClampNeg = 200 from rfl, hb_id (j := 131) (m := 96) (by decide) (by decide +kernel), hb_new (j := 131) (by decide) (by decide +kernel)]
  refine e_putR f186_87 (hb_T (j := 132) (by decide) (by decide +kernel) (by decide +kernel)) rfl ?_
  rw [hb_put (j := 132) (by decide) (by decide +kernel)]
  refine e_aload_n f186_90 rfl ?_
  refine e_sipush (v := 200) f186_91 (by decide) ?_
  refine e_newarray (n := 200) f186_94 (by decide) ?_
  rw [show (200 : Int32).toNatClampNeg = 200 from rfl, hb_id (j := 133) (m := 97) (by decide) (by decide +kernel), hb_new (j := 133) (by decide) (by decide +kernel)]
  refine e_putR f186_96 (hb_T (j := 134) (by decide) (by decide +kernel) (by decide +kernel)) rfl ?_
  rw [hb_put (j := 134) (by decide) (by decide +kernel)]
  refine e_aload_n f186_99 rfl ?_
  refine e_sipush (v := 200) f186_100 (by decide) ?_
  refine e_newarray (n := 200) f186_103 (by decide) ?_
  rw [show (200 : Int32).toNatClampNeg = 200 from rfl, hb_id (j := 135) (m := 98) (by decide) (by decide +kernel), hb_new (j := 135) (by decide) (by decide +kernel)]
  refine e_putR f186_105 (hb_T (j := 136) (by decide) (by decide +kernel) (by decide +kernel)) rfl ?_
  rw [hb_put (j := 136) (by decide) (by decide +kernel)]
  refine e_aload_n f186_108 rfl ?_
  refine e_sipush (v := 200) f186_109 (by decide) ?_
  refine e_newarray (n := 200) f186_112 (by decide) ?_
  rw [show (200 : Int32).toNatClampNeg = 200 from rfl, hb_id (j := 137) (m := 99) (by decide) (by decide +kernel), hb_new (j := 137) (by decide) (by decide +kernel)]
  refine e_putR f186_114 (hb_T (j := 138) (by decide) (by decide +kernel) (by decide +kernel)) rfl ?_
  rw [hb_put (j := 138) (by decide) (by decide +kernel)]
  refine e_aload_n f186_117 rfl ?_
  refine e_bipush (v := 60) f186_118 (by decide) ?_
  refine e_newarray (n := 60) f186_120 (by decide) ?_
  rw [show (60 : Int32).toNatClampNeg = 60 from rfl, hb_id (j := 139) (m := 100) (by decide) (by decide +kernel), hb_new (j := 139) (by decide) (by decide +kernel)]
  refine e_putR f186_122 (hb_T (j := 140) (by decide) (by decide +kernel) (by decide +kernel)) rfl ?_
  rw [hb_put (j := 140) (by decide) (by decide +kernel)]
  refine e_aload_n f186_125 rfl ?_
  refine e_bipush (v := 60) f186_126 (by decide) ?_
  refine e_newarray (n := 60) f186_128 (by decide) ?_
  rw [show (60 : Int32).toNatClampNeg = 60 from rfl, hb_id (j := 141) (m := 101) (by decide) (by decide +kernel), hb_new (j := 141) (by decide) (by decide +kernel)]
  refine e_putR f186_130 (hb_T (j := 142) (by decide) (by decide +kernel) (by decide +kernel)) rfl ?_
  rw [hb_put (j := 142) (by decide) (by decide +kernel)]
  refine e_aload_n f186_133 rfl ?_
  refine e_bipush (v := 60) f186_134 (by decide) ?_
  refine e_newarray (n := 60) f186_136 (by decide) ?_
  rw [show (60 : Int32).toNatClampNeg = 60 from rfl, hb_id (j := 143) (m := 102) (by decide) (by decide +kernel), hb_new (j := 143) (by decide) (by decide +kernel)]
  refine e_putR f186_138 (hb_T (j := 144) (by decide) (by decide +kernel) (by decide +kernel)) rfl ?_
  rw [hb_put (j := 144) (by decide) (by decide +kernel)]
  refine e_aload_n f186_141 rfl ?_
  refine e_sipush (v := 400) f186_142 (by decide) ?_
  refine e_newarray (n := 400) f186_145 (by decide) ?_
  rw [show (400 : Int32).toNatClampNeg = 400 from rfl, hb_id (j := 145) (m := 103) (by decide) (by decide +kernel), hb_new (j := 145) (by decide) (by decide +kernel)]
  refine e_putR f186_147 (hb_T (j := 146) (by decide) (by decide +kernel) (by decide +kernel)) rfl ?_
  rw [hb_put (j := 146) (by decide) (by decide +kernel)]
  refine e_aload_n f186_150 rfl ?_
  refine e_sipush (v := 400) f186_151 (by decide) ?_
  refine e_newarray (n := 400) f186_154 (by decide) ?_
  rw [show (400 : Int32).toNatClampNeg = 400 from rfl, hb_id (j := 147) (m := 104) (by decide) (by decide +kernel), hb_new (j := 147) (by decide) (by decide +kernel)]
  refine e_putR f186_156 (hb_T (j := 148) (by decide) (by decide +kernel) (by decide +kernel)) rfl ?_
  rw [hb_put (j := 148) (by decide) (by decide +kernel)]
  refine e_aload_n f186_159 rfl ?_
  refine e_sipush (v := 400) f186_160 (by decide) ?_
  refine e_newarray (n := 400) f186_163 (by decide) ?_
  rw [show (400 : Int32).toNatClampNeg = 400 from rfl, hb_id (j := 149) (m := 105) (by decide) (by decide +kernel), hb_new (j := 149) (by decide) (by decide +kernel)]
  refine e_putR f186_165 (hb_T (j := 150) (by decide) (by decide +kernel) (by decide +kernel)) rfl ?_
  rw [hb_put (j := 150) (by decide) (by decide +kernel)]
  refine e_aload_n f186_168 rfl ?_
  refine e_sipush (v := 400) f186_169 (by decide) ?_
  refine e_newarray (n := 400) f186_172 (by decide) ?_
  rw [show (400 : Int32).toNatClampNeg = 400 from rfl, hb_id (j := 151) (m := 106) (by decide) (by decide +kernel), hb_new (j := 151) (by decide) (by decide +kernel)]
  refine e_putR f186_174 (hb_T (j := 152) (by decide) (by decide +kernel) (by decide +kernel)) rfl ?_
  rw [hb_put (j := 152) (by decide) (by decide +kernel)]
  refine e_aload_n f186_177 rfl ?_
  refine e_sipush (v := 400) f186_178 (by decide) ?_
  refine e_newarray (n := 400) f186_181 (by decide) ?_
  rw [show (400 : Int32).toNatClampNeg = 400 from rfl, hb_id (j := 153) (m := 107) (by decide) (by decide +kernel), hb_new (j := 153) (by decide) (by decide +kernel)]
  refine e_putR f186_183 (hb_T (j := 154) (by decide) (by decide +kernel) (by decide +kernel)) rfl ?_
  rw [hb_put (j := 154) (by decide) (by decide +kernel)]
  refine e_aload_n f186_186 rfl ?_
  refine e_sipush (v := 400) f186_187 (by decide) ?_
  refine e_newarray (n := 400) f186_190 (by decide) ?_
  rw [show (400 : Int32).toNatClampNeg = 400 from rfl, hb_id (j := 155) (m := 108) (by decide) (by decide +kernel), hb_new (j := 155) (by decide) (by decide +kernel)]
  refine e_putR f186_192 (hb_T (j := 156) (by decide) (by decide +kernel) (by decide +kernel)) rfl ?_
  rw [hb_put (j := 156) (by decide) (by decide +kernel)]
  refine e_aload_n f186_195 rfl ?_
  refine e_bipush (v := 40) f186_196 (by decide) ?_
  refine e_newarray (n := 40) f186_198 (by decide) ?_
  rw [show (40 : Int32).toNatClampNeg = 40 from rfl, hb_id (j := 157) (m := 109) (by decide) (by decide +kernel), hb_new (j := 157) (by decide) (by decide +kernel)]
  refine e_putR f186_200 (hb_T (j := 158) (by decide) (by decide +kernel) (by decide +kernel)) rfl ?_
  rw [hb_put (j := 158) (by decide) (by decide +kernel)]
  refine e_aload_n f186_203 rfl ?_
  refine e_bipush (v := 32) f186_204 (by decide) ?_
  refine e_newarray (n := 32) f186_206 (by decide) ?_
  rw [show (32 : Int32).toNatClampNeg = 32 from rfl, hb_id (j := 159) (m := 110) (by decide) (by decide +kernel), hb_new (j := 159) (by decide) (by decide +kernel)]
  refine e_putR f186_208 (hb_T (j := 160) (by decide) (by decide +kernel) (by decide +kernel)) rfl ?_
  rw [hb_put (j := 160) (by decide) (by decide +kernel)]
  refine e_aload_n f186_211 rfl ?_
  refine e_sipush (v := 200) f186_212 (by decide) ?_
  refine e_newarray (n := 200) f186_215 (by decide) ?_
  rw [show (200 : Int32).toNatClampNeg = 200 from rfl, hb_id (j := 161) (m := 111) (by decide) (by decide +kernel), hb_new (j := 161) (by decide) (by decide +kernel)]
  refine e_putR f186_217 (hb_T (j := 162) (by decide) (by decide +kernel) (by decide +kernel)) rfl ?_
  rw [hb_put (j := 162) (by decide) (by decide +kernel)]
  refine e_aload_n f186_220 rfl ?_
  refine e_sipush (v := 200) f186_221 (by decide) ?_
  refine e_newarray (n := 200) f186_224 (by decide) ?_
  rw [show (200 : Int32).toNatClampNeg = 200 from rfl, hb_id (j := 163) (m := 112) (by decide) (by decide +kernel), hb_new (j := 163) (by decide) (by decide +kernel)]
  refine e_putR f186_226 (hb_T (j := 164) (by decide) (by decide +kernel) (by decide +kernel)) rfl ?_
  rw [hb_put (j := 164) (by decide) (by decide +kernel)]
  refine e_aload_n f186_229 rfl ?_
  refine e_sipush (v := 200) f186_230 (by decide) ?_
  refine e_newarray (n := 200) f186_233 (by decide) ?_
  rw [show (200 : Int32).toNatClampNeg = 200 from rfl, hb_id (j := 165) (m := 113) (by decide) (by decide +kernel), hb_new (j := 165) (by decide) (by decide +kernel)]
  refine e_putR f186_235 (hb_T (j := 166) (by decide) (by decide +kernel) (by decide +kernel)) rfl ?_
  rw [hb_put (j := 166) (by decide) (by decide +kernel)]
  refine e_aload_n f186_238 rfl ?_
  refine e_sipush (v := 200) f186_239 (by decide) ?_
  refine e_newarray (n := 200) f186_242 (by decide) ?_
  rw [show (200 : Int32).toNatClampNeg = 200 from rfl, hb_id (j := 167) (m := 114) (by decide) (by decide +kernel), hb_new (j := 167) (by decide) (by decide +kernel)]
  refine e_putR f186_244 (hb_T (j := 168) (by decide) (by decide +kernel) (by decide +kernel)) rfl ?_
  rw [hb_put (j := 168) (by decide) (by decide +kernel)]
  refine e_aload_n f186_247 rfl ?_
  refine e_sipush (v := 200) f186_248 (by decide) ?_
  refine e_newarray (n := 200) f186_251 (by decide) ?_
  rw [show (200 : Int32).toNatClampNeg = 200 from rfl, hb_id (j := 169) (m := 115) (by decide) (by decide +kernel), hb_new (j := 169) (by decide) (by decide +kernel)]
  refine e_putR f186_253 (hb_T (j := 170) (by decide) (by decide +kernel) (by decide +kernel)) rfl ?_
  rw [hb_put (j := 170) (by decide) (by decide +kernel)]
  refine e_aload_n f186_256 rfl ?_
  refine e_sipush (v := 200) f186_257 (by decide) ?_
  refine e_newarray (n := 200) f186_260 (by decide) ?_
  rw [show (200 : Int32).toNatClampNeg = 200 from rfl, hb_id (j := 171) (m := 116) (by decide) (by decide +kernel), hb_new (j := 171) (by decide) (by decide +kernel)]
  refine e_putR f186_262 (hb_T (j := 172) (by decide) (by decide +kernel) (by decide +kernel)) rfl ?_
  rw [hb_put (j := 172) (by decide) (by decide +kernel)]
  refine e_aload_n f186_265 rfl ?_
  refine e_sipush (v := 200) f186_266 (by decide) ?_
  refine e_newarray (n := 200) f186_269 (by decide) ?_
  rw [show (200 : Int32).toNatClampNeg = 200 from rfl, hb_id (j := 173) (m := 117) (by decide) (by decide +kernel), hb_new (j := 173) (by decide) (by decide +kernel)]
  refine e_putR f186_271 (hb_T (j := 174) (by decide) (by decide +kernel) (by decide +kernel)) rfl ?_
  rw [hb_put (j := 174) (by decide) (by decide +kernel)]
  refine e_aload_n f186_274 rfl ?_
  refine e_sipush (v := 200) f186_275 (by decide) ?_
  refine e_newarray (n := 200) f186_278 (by decide) ?_
  rw [show (200 : Int32).toNatClampNeg = 200 from rfl, hb_id (j := 175) (m := 118) (by decide) (by decide +kernel), hb_new (j := 175) (by decide) (by decide +kernel)]
  refine e_putR f186_280 (hb_T (j := 176) (by decide) (by decide +kernel) (by decide +kernel)) rfl ?_
  rw [hb_put (j := 176) (by decide) (by decide +kernel)]
  refine e_aload_n f186_283 rfl ?_
  refine e_sipush (v := 200) f186_284 (by decide) ?_
  refine e_newarray (n := 200) f186_287 (by decide) ?_
  rw [show (200 : Int32).toNatClampNeg = 200 from rfl, hb_id (j := 177) (m := 119) (by decide) (by decide +kernel), hb_new (j := 177) (by decide) (by decide +kernel)]
  refine e_putR f186_289 (hb_T (j := 178) (by decide) (by decide +kernel) (by decide +kernel)) rfl ?_
  rw [hb_put (j := 178) (by decide) (by decide +kernel)]
  refine e_aload_n f186_292 rfl ?_
  refine e_sipush (v := 200) f186_293 (by decide) ?_
  refine e_newarray (n := 200) f186_296 (by decide) ?_
  rw [show (200 : Int32).toNatClampNeg = 200 from rfl, hb_id (j := 179) (m := 120) (by decide) (by decide +kernel), hb_new (j := 179) (by decide) (by decide +kernel)]
  refine e_putR f186_298 (hb_T (j := 180) (by decide) (by decide +kernel) (by decide +kernel)) rfl ?_
  rw [hb_put (j := 180) (by decide) (by decide +kernel)]
  refine e_aload_n f186_301 rfl ?_
  refine e_sipush (v := 200) f186_302 (by decide) ?_
  refine e_newarray (n := 200) f186_305 (by decide) ?_
  rw [show (200 : Int32).toNatClampNeg = 200 from rfl, hb_id (j := 181) (m := 121) (by decide) (by decide +kernel), hb_new (j := 181) (by decide) (by decide +kernel)]
  refine e_putR f186_307 (hb_T (j := 182) (by decide) (by decide +kernel) (by decide +kernel)) rfl ?_
  rw [hb_put (j := 182) (by decide) (by decide +kernel)]
  refine e_aload_n f186_310 rfl ?_
  refine e_sipush (v := 200) f186_311 (by decide) ?_
  refine e_newarray (n := 200) f186_314 (by decide) ?_
  rw [show (200 : Int32).toNatClampNeg = 200 from rfl, hb_id (j := 183) (m := 122) (by decide) (by decide +kernel), hb_new (j := 183) (by decide) (by decide +kernel)]
  refine e_putR f186_316 (hb_T (j := 184) (by decide) (by decide +kernel) (by decide +kernel)) rfl ?_
  rw [hb_put (j := 184) (by decide) (by decide +kernel)]
  refine e_aload_n f186_319 rfl ?_
  refine e_sipush (v := 200) f186_320 (by decide) ?_
  refine e_newarray (n := 200) f186_323 (by decide) ?_
  rw [show (200 : Int32).toNatClampNeg = 200 from rfl, hb_id (j := 185) (m := 123) (by decide) (by decide +kernel), hb_new (j := 185) (by decide) (by decide +kernel)]
  refine e_putR f186_325 (hb_T (j := 186) (by decide) (by decide +kernel) (by decide +kernel)) rfl ?_
  rw [hb_put (j := 186) (by decide) (by decide +kernel)]
  refine e_aload_n f186_328 rfl ?_
  refine e_sipush (v := 200) f186_329 (by decide) ?_
  refine e_newarray (n := 200) f186_332 (by decide) ?_
  rw [show (200 : Int32).toNatClampNeg = 200 from rfl, hb_id (j := 187) (m := 124) (by decide) (by decide +kernel), hb_new (j := 187) (by decide) (by decide +kernel)]
  refine e_putR f186_334 (hb_T (j := 188) (by decide) (by decide +kernel) (by decide +kernel)) rfl ?_
  rw [hb_put (j := 188) (by decide) (by decide +kernel)]
  refine e_aload_n f186_337 rfl ?_
  refine e_bipush (v := 60) f186_338 (by decide) ?_
  refine e_newarray (n := 60) f186_340 (by decide) ?_
  rw [show (60 : Int32).toNatClampNeg = 60 from rfl, hb_id (j := 189) (m := 125) (by decide) (by decide +kernel), hb_new (j := 189) (by decide) (by decide +kernel)]
  refine e_putR f186_342 (hb_T (j := 190) (by decide) (by decide +kernel) (by decide +kernel)) rfl ?_
  rw [hb_put (j := 190) (by decide) (by decide +kernel)]
  refine e_aload_n f186_345 rfl ?_
  refine e_sipush (v := 400) f186_346 (by decide) ?_
  refine e_newarray (n := 400) f186_349 (by decide) ?_
  rw [show (400 : Int32).toNatClampNeg = 400 from rfl, hb_id (j := 191) (m := 126) (by decide) (by decide +kernel), hb_new (j := 191) (by decide) (by decide +kernel)]
  refine e_putR f186_351 (hb_T (j := 192) (by decide) (by decide +kernel) (by decide +kernel)) rfl ?_
  rw [hb_put (j := 192) (by decide) (by decide +kernel)]
  refine e_aload_n f186_354 rfl ?_
  refine e_bipush (v := 20) f186_355 (by decide) ?_
  refine e_newarray (n := 20) f186_357 (by decide) ?_
  rw [show (20 : Int32).toNatClampNeg = 20 from rfl, hb_id (j := 193) (m := 127) (by decide) (by decide +kernel), hb_new (j := 193) (by decide) (by decide +kernel)]
  refine e_putR f186_359 (hb_T (j := 194) (by decide) (by decide +kernel) (by decide +kernel)) rfl ?_
  rw [hb_put (j := 194) (by decide) (by decide +kernel)]
  refine e_aload_n f186_362 rfl ?_
  refine e_bipush (v := 20) f186_363 (by decide) ?_
  refine e_newarray (n := 20) f186_365 (by decide) ?_
  rw [show (20 : Int32).toNatClampNeg = 20 from rfl, hb_id (j := 195) (m := 128) (by decide) (by decide +kernel), hb_new (j := 195) (by decide) (by decide +kernel)]
  refine e_putR f186_367 (hb_T (j := 196) (by decide) (by decide +kernel) (by decide +kernel)) rfl ?_
  rw [hb_put (j := 196) (by decide) (by decide +kernel)]
  refine e_aload_n f186_370 rfl ?_
  refine e_sipush (v := 240) f186_371 (by decide) ?_
  refine e_newarray (n := 240) f186_374 (by decide) ?_
  rw [show (240 : Int32).toNatClampNeg = 240 from rfl, hb_id (j := 197) (m := 129) (by decide) (by decide +kernel), hb_new (j := 197) (by decide) (by decide +kernel)]
  refine e_putR f186_376 (hb_T (j := 198) (by decide) (by decide +kernel) (by decide +kernel)) rfl ?_
  rw [hb_put (j := 198) (by decide) (by decide +kernel)]
  refine e_aload_n f186_379 rfl ?_
  refine e_sipush (v := 240) f186_380 (by decide) ?_
  refine e_newarray (n := 240) f186_383 (by decide) ?_
  rw [show (240 : Int32).toNatClampNeg = 240 from rfl, hb_id (j := 199) (m := 130) (by decide) (by decide +kernel), hb_new (j := 199) (by decide) (by decide +kernel)]
  refine e_putR f186_385 (hb_T (j := 200) (by decide) (by decide +kernel) (by decide +kernel)) rfl ?_
  rw [hb_put (j := 200) (by decide) (by decide +kernel)]
  refine e_aload_n f186_388 rfl ?_
  refine e_sipush (v := 240) f186_389 (by decide) ?_
  refine e_newarray (n := 240) f186_392 (by decide) ?_
  rw [show (240 : Int32).toNatClampNeg = 240 from rfl, hb_id (j := 201) (m := 131) (by decide) (by decide +kernel), hb_new (j := 201) (by decide) (by decide +kernel)]
  refine e_putR f186_394 (hb_T (j := 202) (by decide) (by decide +kernel) (by decide +kernel)) rfl ?_
  rw [hb_put (j := 202) (by decide) (by decide +kernel)]
  refine e_aload_n f186_397 rfl ?_
  refine e_sipush (v := 240) f186_398 (by decide) ?_
  refine e_newarray (n := 240) f186_401 (by decide) ?_
  rw [show (240 : Int32).toNatClampNeg = 240 from rfl, hb_id (j := 203) (m := 132) (by decide) (by decide +kernel), hb_new (j := 203) (by decide) (by decide +kernel)]
  refine e_putR f186_403 (hb_T (j := 204) (by decide) (by decide +kernel) (by decide +kernel)) rfl ?_
  rw [hb_put (j := 204) (by decide) (by decide +kernel)]
  refine e_aload_n f186_406 rfl ?_
  refine e_sipush (v := 8000) f186_407 (by decide) ?_
  refine e_newarray (n := 8000) f186_410 (by decide) ?_
  rw [show (8000 : Int32).toNatClampNeg = 8000 from rfl, hb_id (j := 205) (m := 133) (by decide) (by decide +kernel), hb_new (j := 205) (by decide) (by decide +kernel)]
  refine e_putR f186_412 (hb_T (j := 206) (by decide) (by decide +kernel) (by decide +kernel)) rfl ?_
  rw [hb_put (j := 206) (by decide) (by decide +kernel)]
  refine e_aload_n f186_415 rfl ?_
  refine e_sipush (v := 8000) f186_416 (by decide) ?_
  refine e_newarray (n := 8000) f186_419 (by decide) ?_
  rw [show (8000 : Int32).toNatClampNeg = 8000 from rfl, hb_id (j := 207) (m := 134) (by decide) (by decide +kernel), hb_new (j := 207) (by decide) (by decide +kernel)]
  refine e_putR f186_421 (hb_T (j := 208) (by decide) (by decide +kernel) (by decide +kernel)) rfl ?_
  rw [hb_put (j := 208) (by decide) (by decide +kernel)]
  refine e_aload_n f186_424 rfl ?_
  refine e_sipush (v := 400) f186_425 (by decide) ?_
  refine e_newarray (n := 400) f186_428 (by decide) ?_
  rw [show (400 : Int32).toNatClampNeg = 400 from rfl, hb_id (j := 209) (m := 135) (by decide) (by decide +kernel), hb_new (j := 209) (by decide) (by decide +kernel)]
  refine e_putR f186_430 (hb_T (j := 210) (by decide) (by decide +kernel) (by decide +kernel)) rfl ?_
  rw [hb_put (j := 210) (by decide) (by decide +kernel)]
  refine e_aload_n f186_433 rfl ?_
  refine e_sipush (v := 400) f186_434 (by decide) ?_
  refine e_newarray (n := 400) f186_437 (by decide) ?_
  rw [show (400 : Int32).toNatClampNeg = 400 from rfl, hb_id (j := 211) (m := 136) (by decide) (by decide +kernel), hb_new (j := 211) (by decide) (by decide +kernel)]
  refine e_putR f186_439 (hb_T (j := 212) (by decide) (by decide +kernel) (by decide +kernel)) rfl ?_
  rw [hb_put (j := 212) (by decide) (by decide +kernel)]
  refine e_aload_n f186_442 rfl ?_
  refine e_bipush (v := 11) f186_443 (by decide) ?_
  refine e_newarray (n := 11) f186_445 (by decide) ?_
  rw [show (11 : Int32).toNatClampNeg = 11 from rfl, hb_id (j := 213) (m := 137) (by decide) (by decide +kernel), hb_new (j := 213) (by decide) (by decide +kernel)]
  refine e_putR f186_447 (hb_T (j := 214) (by decide) (by decide +kernel) (by decide +kernel)) rfl ?_
  rw [hb_put (j := 214) (by decide) (by decide +kernel)]
  refine e_aload_n f186_450 rfl ?_
  refine e_iconst (v := -1) f186_451 (by decide) ?_
  refine e_putI f186_452 (hb_T (j := 215) (by decide) (by decide +kernel) (by decide +kernel)) rfl ?_
  rw [hb_int (j := 215) (by decide) (by decide +kernel)]
  refine e_aload_n f186_455 rfl ?_
  refine e_sipush (v := 4000) f186_456 (by decide) ?_
  refine e_newarray (n := 4000) f186_459 (by decide) ?_
  rw [show (4000 : Int32).toNatClampNeg = 4000 from rfl, hb_id (j := 216) (m := 138) (by decide) (by decide +kernel), hb_new (j := 216) (by decide) (by decide +kernel)]
  refine e_putR f186_461 (hb_T (j := 217) (by decide) (by decide +kernel) (by decide +kernel)) rfl ?_
  rw [hb_put (j := 217) (by decide) (by decide +kernel)]
  refine e_aload_n f186_464 rfl ?_
  refine e_sipush (v := 4000) f186_465 (by decide) ?_
  refine e_newarray (n := 4000) f186_468 (by decide) ?_
  rw [show (4000 : Int32).toNatClampNeg = 4000 from rfl, hb_id (j := 218) (m := 139) (by decide) (by decide +kernel), hb_new (j := 218) (by decide) (by decide +kernel)]
  refine e_putR f186_470 (hb_T (j := 219) (by decide) (by decide +kernel) (by decide +kernel)) rfl ?_
  rw [hb_put (j := 219) (by decide) (by decide +kernel)]
  refine e_aload_n f186_473 rfl ?_
  refine e_sipush (v := 4000) f186_474 (by decide) ?_
  refine e_newarray (n := 4000) f186_477 (by decide) ?_
  rw [show (4000 : Int32).toNatClampNeg = 4000 from rfl, hb_id (j := 220) (m := 140) (by decide) (by decide +kernel), hb_new (j := 220) (by decide) (by decide +kernel)]
  refine e_putR f186_479 (hb_T (j := 221) (by decide) (by decide +kernel) (by decide +kernel)) rfl ?_
  rw [hb_put (j := 221) (by decide) (by decide +kernel)]
  refine e_aload_n f186_482 rfl ?_
  refine e_bipush (v := 30) f186_483 (by decide) ?_
  refine e_newarray (n := 30) f186_485 (by decide) ?_
  rw [show (30 : Int32).toNatClampNeg = 30 from rfl, hb_id (j := 222) (m := 141) (by decide) (by decide +kernel), hb_new (j := 222) (by decide) (by decide +kernel)]
  refine e_putR f186_487 (hb_T (j := 223) (by decide) (by decide +kernel) (by decide +kernel)) rfl ?_
  rw [hb_put (j := 223) (by decide) (by decide +kernel)]
  refine e_aload_n f186_490 rfl ?_
  refine e_bipush (v := 30) f186_491 (by decide) ?_
  refine e_newarray (n := 30) f186_493 (by decide) ?_
  rw [show (30 : Int32).toNatClampNeg = 30 from rfl, hb_id (j := 224) (m := 142) (by decide) (by decide +kernel), hb_new (j := 224) (by decide) (by decide +kernel)]
  refine e_putR f186_495 (hb_T (j := 225) (by decide) (by decide +kernel) (by decide +kernel)) rfl ?_
  rw [hb_put (j := 225) (by decide) (by decide +kernel)]
  refine e_aload_n f186_498 rfl ?_
  refine e_bipush (v := 30) f186_499 (by decide) ?_
  refine e_newarray (n := 30) f186_501 (by decide) ?_
  rw [show (30 : Int32).toNatClampNeg = 30 from rfl, hb_id (j := 226) (m := 143) (by decide) (by decide +kernel), hb_new (j := 226) (by decide) (by decide +kernel)]
  refine e_putR f186_503 (hb_T (j := 227) (by decide) (by decide +kernel) (by decide +kernel)) rfl ?_
  rw [hb_put (j := 227) (by decide) (by decide +kernel)]
  refine e_aload_n f186_506 rfl ?_
  refine e_bipush (v := 30) f186_507 (by decide) ?_
  refine e_newarray (n := 30) f186_509 (by decide) ?_
  rw [show (30 : Int32).toNatClampNeg = 30 from rfl, hb_id (j := 228) (m := 144) (by decide) (by decide +kernel), hb_new (j := 228) (by decide) (by decide +kernel)]
  refine e_putR f186_511 (hb_T (j := 229) (by decide) (by decide +kernel) (by decide +kernel)) rfl ?_
  rw [hb_put (j := 229) (by decide) (by decide +kernel)]
  refine e_aload_n f186_514 rfl ?_
  refine e_bipush (v := 30) f186_515 (by decide) ?_
  refine e_newarray (n := 30) f186_517 (by decide) ?_
  rw [show (30 : Int32).toNatClampNeg = 30 from rfl, hb_id (j := 230) (m := 145) (by decide) (by decide +kernel), hb_new (j := 230) (by decide) (by decide +kernel)]
  refine e_putR f186_519 (hb_T (j := 231) (by decide) (by decide +kernel) (by decide +kernel)) rfl ?_
  rw [hb_put (j := 231) (by decide) (by decide +kernel)]
  refine e_aload_n f186_522 rfl ?_
  refine e_ldc (v := 120000) f186_523 (by decide) (by decide) ?_
  refine e_newarray (n := 120000) f186_525 (by decide) ?_
  rw [show (120000 : Int32).toNatClampNeg = 120000 from rfl, hb_id (j := 232) (m := 146) (by decide) (by decide +kernel), hb_new (j := 232) (by decide) (by decide +kernel)]
  refine e_putR f186_527 (hb_T (j := 233) (by decide) (by decide +kernel) (by decide +kernel)) rfl ?_
  rw [hb_put (j := 233) (by decide) (by decide +kernel)]
  refine e_aload_n f186_530 rfl ?_
  refine e_bipush (v := 60) f186_531 (by decide) ?_
  refine e_newarray (n := 60) f186_533 (by decide) ?_
  rw [show (60 : Int32).toNatClampNeg = 60 from rfl, hb_id (j := 234) (m := 147) (by decide) (by decide +kernel), hb_new (j := 234) (by decide) (by decide +kernel)]
  refine e_putR f186_535 (hb_T (j := 235) (by decide) (by decide +kernel) (by decide +kernel)) rfl ?_
  rw [hb_put (j := 235) (by decide) (by decide +kernel)]
  refine e_aload_n f186_538 rfl ?_
  refine e_sipush (v := 200) f186_539 (by decide) ?_
  refine e_newarray (n := 200) f186_542 (by decide) ?_
  rw [show (200 : Int32).toNatClampNeg = 200 from rfl, hb_id (j := 236) (m := 148) (by decide) (by decide +kernel), hb_new (j := 236) (by decide) (by decide +kernel)]
  refine e_putR f186_544 (hb_T (j := 237) (by decide) (by decide +kernel) (by decide +kernel)) rfl ?_
  rw [hb_put (j := 237) (by decide) (by decide +kernel)]
  refine e_aload_n f186_547 rfl ?_
  refine e_bipush (v := 60) f186_548 (by decide) ?_
  refine e_newarray (n := 60) f186_550 (by decide) ?_
  rw [show (60 : Int32).toNatClampNeg = 60 from rfl, hb_id (j := 238) (m := 149) (by decide) (by decide +kernel), hb_new (j := 238) (by decide) (by decide +kernel)]
  refine e_putR f186_552 (hb_T (j := 239) (by decide) (by decide +kernel) (by decide +kernel)) rfl ?_
  rw [hb_put (j := 239) (by decide) (by decide +kernel)]
  refine e_aload_n f186_555 rfl ?_
  refine e_bipush (v := 60) f186_556 (by decide) ?_
  refine e_newarray (n := 60) f186_558 (by decide) ?_
  rw [show (60 : Int32).toNatClampNeg = 60 from rfl, hb_id (j := 240) (m := 150) (by decide) (by decide +kernel), hb_new (j := 240) (by decide) (by decide +kernel)]
  refine e_putR f186_560 (hb_T (j := 241) (by decide) (by decide +kernel) (by decide +kernel)) rfl ?_
  rw [hb_put (j := 241) (by decide) (by decide +kernel)]
  refine e_aload_n f186_563 rfl ?_
  refine e_bipush (v := 60) f186_564 (by decide) ?_
  refine e_newarray (n := 60) f186_566 (by decide) ?_
  rw [show (60 : Int32).toNatClampNeg = 60 from rfl, hb_id (j := 242) (m := 151) (by decide) (by decide +kernel), hb_new (j := 242) (by decide) (by decide +kernel)]
  refine e_putR f186_568 (hb_T (j := 243) (by decide) (by decide +kernel) (by decide +kernel)) rfl ?_
  rw [hb_put (j := 243) (by decide) (by decide +kernel)]
  refine e_aload_n f186_571 rfl ?_
  refine e_bipush (v := 60) f186_572 (by decide) ?_
  refine e_newarray (n := 60) f186_574 (by decide) ?_
  rw [show (60 : Int32).toNatClampNeg = 60 from rfl, hb_id (j := 244) (m := 152) (by decide) (by decide +kernel), hb_new (j := 244) (by decide) (by decide +kernel)]
  refine e_putR f186_576 (hb_T (j := 245) (by decide) (by decide +kernel) (by decide +kernel)) rfl ?_
  rw [hb_put (j := 245) (by decide) (by decide +kernel)]
  refine e_aload_n f186_579 rfl ?_
  refine e_bipush (v := 60) f186_580 (by decide) ?_
  refine e_newarray (n := 60) f186_582 (by decide) ?_
  rw [show (60 : Int32).toNatClampNeg = 60 from rfl, hb_id (j := 246) (m := 153) (by decide) (by decide +kernel), hb_new (j := 246) (by decide) (by decide +kernel)]
  refine e_putR f186_584 (hb_T (j := 247) (by decide) (by decide +kernel) (by decide +kernel)) rfl ?_
  rw [hb_put (j := 247) (by decide) (by decide +kernel)]
  refine e_aload_n f186_587 rfl ?_
  refine e_bipush (v := 12) f186_588 (by decide) ?_
  refine e_newarray (n := 12) f186_590 (by decide) ?_
  rw [show (12 : Int32).toNatClampNeg = 12 from rfl, hb_id (j := 248) (m := 154) (by decide) (by decide +kernel), hb_new (j := 248) (by decide) (by decide +kernel)]
  refine e_putR f186_592 (hb_T (j := 249) (by decide) (by decide +kernel) (by decide +kernel)) rfl ?_
  rw [hb_put (j := 249) (by decide) (by decide +kernel)]
  refine e_aload_n f186_595 rfl ?_
  refine e_bipush (v := 12) f186_596 (by decide) ?_
  refine e_newarray (n := 12) f186_598 (by decide) ?_
  rw [show (12 : Int32).toNatClampNeg = 12 from rfl, hb_id (j := 250) (m := 155) (by decide) (by decide +kernel), hb_new (j := 250) (by decide) (by decide +kernel)]
  refine e_putR f186_600 (hb_T (j := 251) (by decide) (by decide +kernel) (by decide +kernel)) rfl ?_
  rw [hb_put (j := 251) (by decide) (by decide +kernel)]
  refine e_aload_n f186_603 rfl ?_
  refine e_bipush (v := 9) f186_604 (by decide) ?_
  refine e_newarray (n := 9) f186_606 (by decide) ?_
  rw [show (9 : Int32).toNatClampNeg = 9 from rfl, hb_id (j := 252) (m := 156) (by decide) (by decide +kernel), hb_new (j := 252) (by decide) (by decide +kernel)]
  refine e_putR f186_608 (hb_T (j := 253) (by decide) (by decide +kernel) (by decide +kernel)) rfl ?_
  rw [hb_put (j := 253) (by decide) (by decide +kernel)]
  refine e_aload_n f186_611 rfl ?_
  refine e_bipush (v := 9) f186_612 (by decide) ?_
  refine e_newarray (n := 9) f186_614 (by decide) ?_
  rw [show (9 : Int32).toNatClampNeg = 9 from rfl, hb_id (j := 254) (m := 157) (by decide) (by decide +kernel), hb_new (j := 254) (by decide) (by decide +kernel)]
  refine e_putR f186_616 (hb_T (j := 255) (by decide) (by decide +kernel) (by decide +kernel)) rfl ?_
  rw [hb_put (j := 255) (by decide) (by decide +kernel)]
  refine e_aload_n f186_619 rfl ?_
  refine e_bipush (v := 9) f186_620 (by decide) ?_
  refine e_newarray (n := 9) f186_622 (by decide) ?_
  rw [show (9 : Int32).toNatClampNeg = 9 from rfl, hb_id (j := 256) (m := 158) (by decide) (by decide +kernel), hb_new (j := 256) (by decide) (by decide +kernel)]
  refine e_putR f186_624 (hb_T (j := 257) (by decide) (by decide +kernel) (by decide +kernel)) rfl ?_
  rw [hb_put (j := 257) (by decide) (by decide +kernel)]
  refine e_aload_n f186_627 rfl ?_
  refine e_sipush (v := 512) f186_628 (by decide) ?_
  refine e_newarray (n := 512) f186_631 (by decide) ?_
  rw [show (512 : Int32).toNatClampNeg = 512 from rfl, hb_id (j := 258) (m := 159) (by decide) (by decide +kernel), hb_new (j := 258) (by decide) (by decide +kernel)]
  refine e_putR f186_633 (hb_T (j := 259) (by decide) (by decide +kernel) (by decide +kernel)) rfl ?_
  rw [hb_put (j := 259) (by decide) (by decide +kernel)]
  exact e_return f186_636
set_option maxRecDepth 100000 in
theorem ct_law (d : Nat) {r : Option Value × HS} (hk : ex (d + 66) 306 (18, [some (.ref 1), some (.ref 32), some (.ref 86), some (.int 0)], [], hb L xs NEV) = some r) : ex (d + 66) 306 (ent 306 [.ref 1] (hb L xs 0)) = some r := by
  rw [show ent 306 [.ref 1] (hb L xs 0) = (0, [some (.ref 1), none, none, none], [], hb L xs 0) from rfl]
  refine e_new f306_0 ?_
  rw [hb_id (j := 0) (m := 32) (by decide) (by decide +kernel), hb_new (j := 0) (by decide) (by decide +kernel)]
  refine e_dup f306_3 rfl ?_
  refine e_callI (st := [.ref 32]) (o := 32) (as := []) f306_4 (by decide) rfl rfl (Nat.le_of_ble_eq_true rfl) (hb_T (j := 1) (by decide) (by decide +kernel) (by decide +kernel)) (Nat.le_of_ble_eq_true rfl) (ct8 (d + 64)) ?_
  refine e_astore_n (ls2 := [some (.ref 1), some (.ref 32), none, none]) f306_7 (Nat.le_of_ble_eq_true rfl) rfl ?_
  refine e_new f306_8 ?_
  rw [hb_id (j := 112) (m := 86) (by decide) (by decide +kernel), hb_new (j := 112) (by decide) (by decide +kernel)]
  refine e_dup f306_11 rfl ?_
  refine e_callI (st := [.ref 86]) (o := 86) (as := []) f306_12 (by decide) rfl rfl (Nat.le_of_ble_eq_true rfl) (hb_T (j := 113) (by decide) (by decide +kernel) (by decide +kernel)) (Nat.le_of_ble_eq_true rfl) (ct9 (d + 65)) ?_
  refine e_astore_n (ls2 := [some (.ref 1), some (.ref 32), some (.ref 86), none]) f306_15 (Nat.le_of_ble_eq_true rfl) rfl ?_
  refine e_iconst (v := 0) f306_16 (by decide) ?_
  refine e_istore_n (ls2 := [some (.ref 1), some (.ref 32), some (.ref 86), some (.int 0)]) f306_17 (Nat.le_of_ble_eq_true rfl) rfl ?_
  exact hk
end CTR
