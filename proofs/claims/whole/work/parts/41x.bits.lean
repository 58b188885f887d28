/-! how many bits a number of sixteen has -/
def ppN : Nat → Nat → Nat
  | 0, _ => 0
  | k + 1, n => Nat.add (Nat.mod n 2) (ppN k (Nat.div n 2))
def bcA (i : Nat) : Nat := Nat.sub i (Nat.land (Nat.div i 2) 1431655765)
def bcB (a : Nat) : Nat := Nat.add (Nat.land a 858993459) (Nat.land (Nat.div a 4) 858993459)
def bcC (b : Nat) : Nat := Nat.land (Nat.add b (Nat.div b 16)) 252645135
def bcD (c : Nat) : Nat := Nat.add c (Nat.div c 256)
def bcE (d : Nat) : Nat := Nat.land (Nat.add d (Nat.div d 65536)) 63
def bcP (i : Nat) : Bool := Nat.beq (bcE (bcD (bcC (bcB (bcA i))))) (ppN 16 i)
def bcR (i : Nat) : Nat → Bool
  | 0 => true
  | n + 1 => bif bcP (Nat.add i n) then bcR i n else false
theorem bcR_of {i : Nat} : ∀ {n : Nat}, bcR i n = true → ∀ j, j < n → bcP (i + j) = true
  | 0, _, j, hj => absurd hj (by omega)
  | n + 1, h, j, hj => by
    simp only [bcR] at h
    cases hb : bcP (Nat.add i n) with
    | false => rw [hb] at h; cases h
    | true =>
      rw [hb] at h
      by_cases e : j = n
      · rw [e]; exact hb
      · exact bcR_of h j (by omega)
theorem bc_0 : bcR 0 512 = true := by decide +kernel
theorem bc_1 : bcR 512 512 = true := by decide +kernel
theorem bc_2 : bcR 1024 512 = true := by decide +kernel
theorem bc_3 : bcR 1536 512 = true := by decide +kernel
theorem bc_4 : bcR 2048 512 = true := by decide +kernel
theorem bc_5 : bcR 2560 512 = true := by decide +kernel
theorem bc_6 : bcR 3072 512 = true := by decide +kernel
theorem bc_7 : bcR 3584 512 = true := by decide +kernel
theorem bc_8 : bcR 4096 512 = true := by decide +kernel
theorem bc_9 : bcR 4608 512 = true := by decide +kernel
theorem bc_10 : bcR 5120 512 = true := by decide +kernel
theorem bc_11 : bcR 5632 512 = true := by decide +kernel
theorem bc_12 : bcR 6144 512 = true := by decide +kernel
theorem bc_13 : bcR 6656 512 = true := by decide +kernel
theorem bc_14 : bcR 7168 512 = true := by decide +kernel
theorem bc_15 : bcR 7680 512 = true := by decide +kernel
theorem bc_16 : bcR 8192 512 = true := by decide +kernel
theorem bc_17 : bcR 8704 512 = true := by decide +kernel
theorem bc_18 : bcR 9216 512 = true := by decide +kernel
theorem bc_19 : bcR 9728 512 = true := by decide +kernel
theorem bc_20 : bcR 10240 512 = true := by decide +kernel
theorem bc_21 : bcR 10752 512 = true := by decide +kernel
theorem bc_22 : bcR 11264 512 = true := by decide +kernel
theorem bc_23 : bcR 11776 512 = true := by decide +kernel
theorem bc_24 : bcR 12288 512 = true := by decide +kernel
theorem bc_25 : bcR 12800 512 = true := by decide +kernel
theorem bc_26 : bcR 13312 512 = true := by decide +kernel
theorem bc_27 : bcR 13824 512 = true := by decide +kernel
theorem bc_28 : bcR 14336 512 = true := by decide +kernel
theorem bc_29 : bcR 14848 512 = true := by decide +kernel
theorem bc_30 : bcR 15360 512 = true := by decide +kernel
theorem bc_31 : bcR 15872 512 = true := by decide +kernel
theorem bc_32 : bcR 16384 512 = true := by decide +kernel
theorem bc_33 : bcR 16896 512 = true := by decide +kernel
theorem bc_34 : bcR 17408 512 = true := by decide +kernel
theorem bc_35 : bcR 17920 512 = true := by decide +kernel
theorem bc_36 : bcR 18432 512 = true := by decide +kernel
theorem bc_37 : bcR 18944 512 = true := by decide +kernel
theorem bc_38 : bcR 19456 512 = true := by decide +kernel
theorem bc_39 : bcR 19968 512 = true := by decide +kernel
theorem bc_40 : bcR 20480 512 = true := by decide +kernel
theorem bc_41 : bcR 20992 512 = true := by decide +kernel
theorem bc_42 : bcR 21504 512 = true := by decide +kernel
theorem bc_43 : bcR 22016 512 = true := by decide +kernel
theorem bc_44 : bcR 22528 512 = true := by decide +kernel
theorem bc_45 : bcR 23040 512 = true := by decide +kernel
theorem bc_46 : bcR 23552 512 = true := by decide +kernel
theorem bc_47 : bcR 24064 512 = true := by decide +kernel
theorem bc_48 : bcR 24576 512 = true := by decide +kernel
theorem bc_49 : bcR 25088 512 = true := by decide +kernel
theorem bc_50 : bcR 25600 512 = true := by decide +kernel
theorem bc_51 : bcR 26112 512 = true := by decide +kernel
theorem bc_52 : bcR 26624 512 = true := by decide +kernel
theorem bc_53 : bcR 27136 512 = true := by decide +kernel
theorem bc_54 : bcR 27648 512 = true := by decide +kernel
theorem bc_55 : bcR 28160 512 = true := by decide +kernel
theorem bc_56 : bcR 28672 512 = true := by decide +kernel
theorem bc_57 : bcR 29184 512 = true := by decide +kernel
theorem bc_58 : bcR 29696 512 = true := by decide +kernel
theorem bc_59 : bcR 30208 512 = true := by decide +kernel
theorem bc_60 : bcR 30720 512 = true := by decide +kernel
theorem bc_61 : bcR 31232 512 = true := by decide +kernel
theorem bc_62 : bcR 31744 512 = true := by decide +kernel
theorem bc_63 : bcR 32256 512 = true := by decide +kernel
theorem bc_64 : bcR 32768 512 = true := by decide +kernel
theorem bc_65 : bcR 33280 512 = true := by decide +kernel
theorem bc_66 : bcR 33792 512 = true := by decide +kernel
theorem bc_67 : bcR 34304 512 = true := by decide +kernel
theorem bc_68 : bcR 34816 512 = true := by decide +kernel
theorem bc_69 : bcR 35328 512 = true := by decide +kernel
theorem bc_70 : bcR 35840 512 = true := by decide +kernel
theorem bc_71 : bcR 36352 512 = true := by decide +kernel
theorem bc_72 : bcR 36864 512 = true := by decide +kernel
theorem bc_73 : bcR 37376 512 = true := by decide +kernel
theorem bc_74 : bcR 37888 512 = true := by decide +kernel
theorem bc_75 : bcR 38400 512 = true := by decide +kernel
theorem bc_76 : bcR 38912 512 = true := by decide +kernel
theorem bc_77 : bcR 39424 512 = true := by decide +kernel
theorem bc_78 : bcR 39936 512 = true := by decide +kernel
theorem bc_79 : bcR 40448 512 = true := by decide +kernel
theorem bc_80 : bcR 40960 512 = true := by decide +kernel
theorem bc_81 : bcR 41472 512 = true := by decide +kernel
theorem bc_82 : bcR 41984 512 = true := by decide +kernel
theorem bc_83 : bcR 42496 512 = true := by decide +kernel
theorem bc_84 : bcR 43008 512 = true := by decide +kernel
theorem bc_85 : bcR 43520 512 = true := by decide +kernel
theorem bc_86 : bcR 44032 512 = true := by decide +kernel
theorem bc_87 : bcR 44544 512 = true := by decide +kernel
theorem bc_88 : bcR 45056 512 = true := by decide +kernel
theorem bc_89 : bcR 45568 512 = true := by decide +kernel
theorem bc_90 : bcR 46080 512 = true := by decide +kernel
theorem bc_91 : bcR 46592 512 = true := by decide +kernel
theorem bc_92 : bcR 47104 512 = true := by decide +kernel
theorem bc_93 : bcR 47616 512 = true := by decide +kernel
theorem bc_94 : bcR 48128 512 = true := by decide +kernel
theorem bc_95 : bcR 48640 512 = true := by decide +kernel
theorem bc_96 : bcR 49152 512 = true := by decide +kernel
theorem bc_97 : bcR 49664 512 = true := by decide +kernel
theorem bc_98 : bcR 50176 512 = true := by decide +kernel
theorem bc_99 : bcR 50688 512 = true := by decide +kernel
theorem bc_100 : bcR 51200 512 = true := by decide +kernel
theorem bc_101 : bcR 51712 512 = true := by decide +kernel
theorem bc_102 : bcR 52224 512 = true := by decide +kernel
theorem bc_103 : bcR 52736 512 = true := by decide +kernel
theorem bc_104 : bcR 53248 512 = true := by decide +kernel
theorem bc_105 : bcR 53760 512 = true := by decide +kernel
theorem bc_106 : bcR 54272 512 = true := by decide +kernel
theorem bc_107 : bcR 54784 512 = true := by decide +kernel
theorem bc_108 : bcR 55296 512 = true := by decide +kernel
theorem bc_109 : bcR 55808 512 = true := by decide +kernel
theorem bc_110 : bcR 56320 512 = true := by decide +kernel
theorem bc_111 : bcR 56832 512 = true := by decide +kernel
theorem bc_112 : bcR 57344 512 = true := by decide +kernel
theorem bc_113 : bcR 57856 512 = true := by decide +kernel
theorem bc_114 : bcR 58368 512 = true := by decide +kernel
theorem bc_115 : bcR 58880 512 = true := by decide +kernel
theorem bc_116 : bcR 59392 512 = true := by decide +kernel
theorem bc_117 : bcR 59904 512 = true := by decide +kernel
theorem bc_118 : bcR 60416 512 = true := by decide +kernel
theorem bc_119 : bcR 60928 512 = true := by decide +kernel
theorem bc_120 : bcR 61440 512 = true := by decide +kernel
theorem bc_121 : bcR 61952 512 = true := by decide +kernel
theorem bc_122 : bcR 62464 512 = true := by decide +kernel
theorem bc_123 : bcR 62976 512 = true := by decide +kernel
theorem bc_124 : bcR 63488 512 = true := by decide +kernel
theorem bc_125 : bcR 64000 512 = true := by decide +kernel
theorem bc_126 : bcR 64512 512 = true := by decide +kernel
theorem bc_127 : bcR 65024 512 = true := by decide +kernel
theorem bc_all (i : Nat) (h : i < 65536) : bcP i = true := by
  have hk : i = 512 * (i / 512) + i % 512 := by omega
  have hm : i % 512 < 512 := Nat.mod_lt _ (by decide)
  have hd : i / 512 < 128 := by omega
  rw [hk]
  generalize i % 512 = m at *
  generalize i / 512 = d at *
  match d, hd with
  | 0, _ => exact bcR_of bc_0 m hm
  | 1, _ => exact bcR_of bc_1 m hm
  | 2, _ => exact bcR_of bc_2 m hm
  | 3, _ => exact bcR_of bc_3 m hm
  | 4, _ => exact bcR_of bc_4 m hm
  | 5, _ => exact bcR_of bc_5 m hm
  | 6, _ => exact bcR_of bc_6 m hm
  | 7, _ => exact bcR_of bc_7 m hm
  | 8, _ => exact bcR_of bc_8 m hm
  | 9, _ => exact bcR_of bc_9 m hm
  | 10, _ => exact bcR_of bc_10 m hm
  | 11, _ => exact bcR_of bc_11 m hm
  | 12, _ => exact bcR_of bc_12 m hm
  | 13, _ => exact bcR_of bc_13 m hm
  | 14, _ => exact bcR_of bc_14 m hm
  | 15, _ => exact bcR_of bc_15 m hm
  | 16, _ => exact bcR_of bc_16 m hm
  | 17, _ => exact bcR_of bc_17 m hm
  | 18, _ => exact bcR_of bc_18 m hm
  | 19, _ => exact bcR_of bc_19 m hm
  | 20, _ => exact bcR_of bc_20 m hm
  | 21, _ => exact bcR_of bc_21 m hm
  | 22, _ => exact bcR_of bc_22 m hm
  | 23, _ => exact bcR_of bc_23 m hm
  | 24, _ => exact bcR_of bc_24 m hm
  | 25, _ => exact bcR_of bc_25 m hm
  | 26, _ => exact bcR_of bc_26 m hm
  | 27, _ => exact bcR_of bc_27 m hm
  | 28, _ => exact bcR_of bc_28 m hm
  | 29, _ => exact bcR_of bc_29 m hm
  | 30, _ => exact bcR_of bc_30 m hm
  | 31, _ => exact bcR_of bc_31 m hm
  | 32, _ => exact bcR_of bc_32 m hm
  | 33, _ => exact bcR_of bc_33 m hm
  | 34, _ => exact bcR_of bc_34 m hm
  | 35, _ => exact bcR_of bc_35 m hm
  | 36, _ => exact bcR_of bc_36 m hm
  | 37, _ => exact bcR_of bc_37 m hm
  | 38, _ => exact bcR_of bc_38 m hm
  | 39, _ => exact bcR_of bc_39 m hm
  | 40, _ => exact bcR_of bc_40 m hm
  | 41, _ => exact bcR_of bc_41 m hm
  | 42, _ => exact bcR_of bc_42 m hm
  | 43, _ => exact bcR_of bc_43 m hm
  | 44, _ => exact bcR_of bc_44 m hm
  | 45, _ => exact bcR_of bc_45 m hm
  | 46, _ => exact bcR_of bc_46 m hm
  | 47, _ => exact bcR_of bc_47 m hm
  | 48, _ => exact bcR_of bc_48 m hm
  | 49, _ => exact bcR_of bc_49 m hm
  | 50, _ => exact bcR_of bc_50 m hm
  | 51, _ => exact bcR_of bc_51 m hm
  | 52, _ => exact bcR_of bc_52 m hm
  | 53, _ => exact bcR_of bc_53 m hm
  | 54, _ => exact bcR_of bc_54 m hm
  | 55, _ => exact bcR_of bc_55 m hm
  | 56, _ => exact bcR_of bc_56 m hm
  | 57, _ => exact bcR_of bc_57 m hm
  | 58, _ => exact bcR_of bc_58 m hm
  | 59, _ => exact bcR_of bc_59 m hm
  | 60, _ => exact bcR_of bc_60 m hm
  | 61, _ => exact bcR_of bc_61 m hm
  | 62, _ => exact bcR_of bc_62 m hm
  | 63, _ => exact bcR_of bc_63 m hm
  | 64, _ => exact bcR_of bc_64 m hm
  | 65, _ => exact bcR_of bc_65 m hm
  | 66, _ => exact bcR_of bc_66 m hm
  | 67, _ => exact bcR_of bc_67 m hm
  | 68, _ => exact bcR_of bc_68 m hm
  | 69, _ => exact bcR_of bc_69 m hm
  | 70, _ => exact bcR_of bc_70 m hm
  | 71, _ => exact bcR_of bc_71 m hm
  | 72, _ => exact bcR_of bc_72 m hm
  | 73, _ => exact bcR_of bc_73 m hm
  | 74, _ => exact bcR_of bc_74 m hm
  | 75, _ => exact bcR_of bc_75 m hm
  | 76, _ => exact bcR_of bc_76 m hm
  | 77, _ => exact bcR_of bc_77 m hm
  | 78, _ => exact bcR_of bc_78 m hm
  | 79, _ => exact bcR_of bc_79 m hm
  | 80, _ => exact bcR_of bc_80 m hm
  | 81, _ => exact bcR_of bc_81 m hm
  | 82, _ => exact bcR_of bc_82 m hm
  | 83, _ => exact bcR_of bc_83 m hm
  | 84, _ => exact bcR_of bc_84 m hm
  | 85, _ => exact bcR_of bc_85 m hm
  | 86, _ => exact bcR_of bc_86 m hm
  | 87, _ => exact bcR_of bc_87 m hm
  | 88, _ => exact bcR_of bc_88 m hm
  | 89, _ => exact bcR_of bc_89 m hm
  | 90, _ => exact bcR_of bc_90 m hm
  | 91, _ => exact bcR_of bc_91 m hm
  | 92, _ => exact bcR_of bc_92 m hm
  | 93, _ => exact bcR_of bc_93 m hm
  | 94, _ => exact bcR_of bc_94 m hm
  | 95, _ => exact bcR_of bc_95 m hm
  | 96, _ => exact bcR_of bc_96 m hm
  | 97, _ => exact bcR_of bc_97 m hm
  | 98, _ => exact bcR_of bc_98 m hm
  | 99, _ => exact bcR_of bc_99 m hm
  | 100, _ => exact bcR_of bc_100 m hm
  | 101, _ => exact bcR_of bc_101 m hm
  | 102, _ => exact bcR_of bc_102 m hm
  | 103, _ => exact bcR_of bc_103 m hm
  | 104, _ => exact bcR_of bc_104 m hm
  | 105, _ => exact bcR_of bc_105 m hm
  | 106, _ => exact bcR_of bc_106 m hm
  | 107, _ => exact bcR_of bc_107 m hm
  | 108, _ => exact bcR_of bc_108 m hm
  | 109, _ => exact bcR_of bc_109 m hm
  | 110, _ => exact bcR_of bc_110 m hm
  | 111, _ => exact bcR_of bc_111 m hm
  | 112, _ => exact bcR_of bc_112 m hm
  | 113, _ => exact bcR_of bc_113 m hm
  | 114, _ => exact bcR_of bc_114 m hm
  | 115, _ => exact bcR_of bc_115 m hm
  | 116, _ => exact bcR_of bc_116 m hm
  | 117, _ => exact bcR_of bc_117 m hm
  | 118, _ => exact bcR_of bc_118 m hm
  | 119, _ => exact bcR_of bc_119 m hm
  | 120, _ => exact bcR_of bc_120 m hm
  | 121, _ => exact bcR_of bc_121 m hm
  | 122, _ => exact bcR_of bc_122 m hm
  | 123, _ => exact bcR_of bc_123 m hm
  | 124, _ => exact bcR_of bc_124 m hm
  | 125, _ => exact bcR_of bc_125 m hm
  | 126, _ => exact bcR_of bc_126 m hm
  | 127, _ => exact bcR_of bc_127 m hm
  | x + 128, hd => exact absurd hd (by omega)
theorem acn_s (p : Nat → Bool) : ∀ k, acn p (k + 1) = (if p 0 then 1 else 0) + acn (fun h => p (h + 1)) k
  | 0 => by simp [acn]
  | k + 1 => by
    have := acn_s p k
    simp only [acn] at this ⊢
    omega
theorem ppN_acn : ∀ k n, ppN k n = acn (fun h => n.testBit h) k
  | 0, _ => rfl
  | k + 1, n => by
    rw [acn_s]
    have e : (fun h => n.testBit (h + 1)) = (fun h => (n / 2).testBit h) := by funext h; exact Nat.testBit_succ n h
    rw [e, ← ppN_acn k (n / 2)]
    show n % 2 + ppN k (n / 2) = _
    congr 1
    rw [Nat.testBit_zero]
    have : n % 2 = 0 ∨ n % 2 = 1 := by omega
    rcases this with h | h <;> simp [h]

