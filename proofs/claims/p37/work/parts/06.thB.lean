theorem we_0_0 : weB 0 0 weT_0_0 = true := by decide +kernel
theorem own_0_0 : allN 1 (fun b => Nat.beq (dgN (smN 1 (fun b => (bif Nat.beq b 0 then 9 else 8) * 16 ^ b)) b) (bif Nat.beq b 0 then 9 else 8)) = true := by decide +kernel
theorem we_1_0 : weB 1 0 weT_1_0 = true := by decide +kernel
theorem own_1_0 : allN 2 (fun b => Nat.beq (dgN (smN 2 (fun b => (bif Nat.beq b 0 then 9 else 8) * 16 ^ b)) b) (bif Nat.beq b 0 then 9 else 8)) = true := by decide +kernel
theorem we_1_1 : weB 1 1 weT_1_1 = true := by decide +kernel
theorem own_1_1 : allN 2 (fun b => Nat.beq (dgN (smN 2 (fun b => (bif Nat.beq b 1 then 9 else 8) * 16 ^ b)) b) (bif Nat.beq b 1 then 9 else 8)) = true := by decide +kernel
theorem we_2_0 : weB 2 0 weT_2_0 = true := by decide +kernel
theorem own_2_0 : allN 2 (fun b => Nat.beq (dgN (smN 2 (fun b => (bif Nat.beq b 0 then 9 else 8) * 16 ^ b)) b) (bif Nat.beq b 0 then 9 else 8)) = true := by decide +kernel
theorem we_2_1 : weB 2 1 weT_2_1 = true := by decide +kernel
theorem own_2_1 : allN 2 (fun b => Nat.beq (dgN (smN 2 (fun b => (bif Nat.beq b 1 then 9 else 8) * 16 ^ b)) b) (bif Nat.beq b 1 then 9 else 8)) = true := by decide +kernel
theorem we_3_0 : weB 3 0 weT_3_0 = true := by decide +kernel
theorem own_3_0 : allN 2 (fun b => Nat.beq (dgN (smN 2 (fun b => (bif Nat.beq b 0 then 9 else 8) * 16 ^ b)) b) (bif Nat.beq b 0 then 9 else 8)) = true := by decide +kernel
theorem we_3_1 : weB 3 1 weT_3_1 = true := by decide +kernel
theorem own_3_1 : allN 2 (fun b => Nat.beq (dgN (smN 2 (fun b => (bif Nat.beq b 1 then 9 else 8) * 16 ^ b)) b) (bif Nat.beq b 1 then 9 else 8)) = true := by decide +kernel
theorem we_4_0 : weB 4 0 weT_4_0 = true := by decide +kernel
theorem own_4_0 : allN 3 (fun b => Nat.beq (dgN (smN 3 (fun b => (bif Nat.beq b 0 then 9 else 8) * 16 ^ b)) b) (bif Nat.beq b 0 then 9 else 8)) = true := by decide +kernel
theorem we_4_1 : weB 4 1 weT_4_1 = true := by decide +kernel
theorem own_4_1 : allN 3 (fun b => Nat.beq (dgN (smN 3 (fun b => (bif Nat.beq b 1 then 9 else 8) * 16 ^ b)) b) (bif Nat.beq b 1 then 9 else 8)) = true := by decide +kernel
theorem we_4_2 : weB 4 2 weT_4_2 = true := by decide +kernel
theorem own_4_2 : allN 3 (fun b => Nat.beq (dgN (smN 3 (fun b => (bif Nat.beq b 2 then 9 else 8) * 16 ^ b)) b) (bif Nat.beq b 2 then 9 else 8)) = true := by decide +kernel
theorem we_5_0 : weB 5 0 weT_5_0 = true := by decide +kernel
theorem own_5_0 : allN 3 (fun b => Nat.beq (dgN (smN 3 (fun b => (bif Nat.beq b 0 then 9 else 8) * 16 ^ b)) b) (bif Nat.beq b 0 then 9 else 8)) = true := by decide +kernel
theorem we_5_1 : weB 5 1 weT_5_1 = true := by decide +kernel
theorem own_5_1 : allN 3 (fun b => Nat.beq (dgN (smN 3 (fun b => (bif Nat.beq b 1 then 9 else 8) * 16 ^ b)) b) (bif Nat.beq b 1 then 9 else 8)) = true := by decide +kernel
theorem we_5_2 : weB 5 2 weT_5_2 = true := by decide +kernel
theorem own_5_2 : allN 3 (fun b => Nat.beq (dgN (smN 3 (fun b => (bif Nat.beq b 2 then 9 else 8) * 16 ^ b)) b) (bif Nat.beq b 2 then 9 else 8)) = true := by decide +kernel
theorem we_6_0 : weB 6 0 weT_6_0 = true := by decide +kernel
theorem own_6_0 : allN 3 (fun b => Nat.beq (dgN (smN 3 (fun b => (bif Nat.beq b 0 then 9 else 8) * 16 ^ b)) b) (bif Nat.beq b 0 then 9 else 8)) = true := by decide +kernel
theorem we_6_1 : weB 6 1 weT_6_1 = true := by decide +kernel
theorem own_6_1 : allN 3 (fun b => Nat.beq (dgN (smN 3 (fun b => (bif Nat.beq b 1 then 9 else 8) * 16 ^ b)) b) (bif Nat.beq b 1 then 9 else 8)) = true := by decide +kernel
theorem we_6_2 : weB 6 2 weT_6_2 = true := by decide +kernel
theorem own_6_2 : allN 3 (fun b => Nat.beq (dgN (smN 3 (fun b => (bif Nat.beq b 2 then 9 else 8) * 16 ^ b)) b) (bif Nat.beq b 2 then 9 else 8)) = true := by decide +kernel
theorem we_7_0 : weB 7 0 weT_7_0 = true := by decide +kernel
theorem own_7_0 : allN 4 (fun b => Nat.beq (dgN (smN 4 (fun b => (bif Nat.beq b 0 then 9 else 8) * 16 ^ b)) b) (bif Nat.beq b 0 then 9 else 8)) = true := by decide +kernel
theorem we_7_1 : weB 7 1 weT_7_1 = true := by decide +kernel
theorem own_7_1 : allN 4 (fun b => Nat.beq (dgN (smN 4 (fun b => (bif Nat.beq b 1 then 9 else 8) * 16 ^ b)) b) (bif Nat.beq b 1 then 9 else 8)) = true := by decide +kernel
theorem we_7_2 : weB 7 2 weT_7_2 = true := by decide +kernel
theorem own_7_2 : allN 4 (fun b => Nat.beq (dgN (smN 4 (fun b => (bif Nat.beq b 2 then 9 else 8) * 16 ^ b)) b) (bif Nat.beq b 2 then 9 else 8)) = true := by decide +kernel
theorem we_7_3 : weB 7 3 weT_7_3 = true := by decide +kernel
theorem own_7_3 : allN 4 (fun b => Nat.beq (dgN (smN 4 (fun b => (bif Nat.beq b 3 then 9 else 8) * 16 ^ b)) b) (bif Nat.beq b 3 then 9 else 8)) = true := by decide +kernel
theorem we_8_0 : weB 8 0 weT_8_0 = true := by decide +kernel
theorem own_8_0 : allN 4 (fun b => Nat.beq (dgN (smN 4 (fun b => (bif Nat.beq b 0 then 9 else 8) * 16 ^ b)) b) (bif Nat.beq b 0 then 9 else 8)) = true := by decide +kernel
theorem we_8_1 : weB 8 1 weT_8_1 = true := by decide +kernel
theorem own_8_1 : allN 4 (fun b => Nat.beq (dgN (smN 4 (fun b => (bif Nat.beq b 1 then 9 else 8) * 16 ^ b)) b) (bif Nat.beq b 1 then 9 else 8)) = true := by decide +kernel
theorem we_8_2 : weB 8 2 weT_8_2 = true := by decide +kernel
theorem own_8_2 : allN 4 (fun b => Nat.beq (dgN (smN 4 (fun b => (bif Nat.beq b 2 then 9 else 8) * 16 ^ b)) b) (bif Nat.beq b 2 then 9 else 8)) = true := by decide +kernel
theorem we_8_3 : weB 8 3 weT_8_3 = true := by decide +kernel
theorem own_8_3 : allN 4 (fun b => Nat.beq (dgN (smN 4 (fun b => (bif Nat.beq b 3 then 9 else 8) * 16 ^ b)) b) (bif Nat.beq b 3 then 9 else 8)) = true := by decide +kernel
theorem we_9_0 : weB 9 0 weT_9_0 = true := by decide +kernel
theorem own_9_0 : allN 4 (fun b => Nat.beq (dgN (smN 4 (fun b => (bif Nat.beq b 0 then 9 else 8) * 16 ^ b)) b) (bif Nat.beq b 0 then 9 else 8)) = true := by decide +kernel
theorem we_9_1 : weB 9 1 weT_9_1 = true := by decide +kernel
theorem own_9_1 : allN 4 (fun b => Nat.beq (dgN (smN 4 (fun b => (bif Nat.beq b 1 then 9 else 8) * 16 ^ b)) b) (bif Nat.beq b 1 then 9 else 8)) = true := by decide +kernel
theorem we_9_2 : weB 9 2 weT_9_2 = true := by decide +kernel
theorem own_9_2 : allN 4 (fun b => Nat.beq (dgN (smN 4 (fun b => (bif Nat.beq b 2 then 9 else 8) * 16 ^ b)) b) (bif Nat.beq b 2 then 9 else 8)) = true := by decide +kernel
theorem we_9_3 : weB 9 3 weT_9_3 = true := by decide +kernel
theorem own_9_3 : allN 4 (fun b => Nat.beq (dgN (smN 4 (fun b => (bif Nat.beq b 3 then 9 else 8) * 16 ^ b)) b) (bif Nat.beq b 3 then 9 else 8)) = true := by decide +kernel
theorem we_10_0 : weB 10 0 weT_10_0 = true := by decide +kernel
theorem own_10_0 : allN 4 (fun b => Nat.beq (dgN (smN 4 (fun b => (bif Nat.beq b 0 then 9 else 8) * 16 ^ b)) b) (bif Nat.beq b 0 then 9 else 8)) = true := by decide +kernel
theorem we_10_1 : weB 10 1 weT_10_1 = true := by decide +kernel
theorem own_10_1 : allN 4 (fun b => Nat.beq (dgN (smN 4 (fun b => (bif Nat.beq b 1 then 9 else 8) * 16 ^ b)) b) (bif Nat.beq b 1 then 9 else 8)) = true := by decide +kernel
theorem we_10_2 : weB 10 2 weT_10_2 = true := by decide +kernel
theorem own_10_2 : allN 4 (fun b => Nat.beq (dgN (smN 4 (fun b => (bif Nat.beq b 2 then 9 else 8) * 16 ^ b)) b) (bif Nat.beq b 2 then 9 else 8)) = true := by decide +kernel
theorem we_10_3 : weB 10 3 weT_10_3 = true := by decide +kernel
theorem own_10_3 : allN 4 (fun b => Nat.beq (dgN (smN 4 (fun b => (bif Nat.beq b 3 then 9 else 8) * 16 ^ b)) b) (bif Nat.beq b 3 then 9 else 8)) = true := by decide +kernel
theorem we_11_0 : weB 11 0 weT_11_0 = true := by decide +kernel
theorem own_11_0 : allN 4 (fun b => Nat.beq (dgN (smN 4 (fun b => (bif Nat.beq b 0 then 9 else 8) * 16 ^ b)) b) (bif Nat.beq b 0 then 9 else 8)) = true := by decide +kernel
theorem we_11_1 : weB 11 1 weT_11_1 = true := by decide +kernel
theorem own_11_1 : allN 4 (fun b => Nat.beq (dgN (smN 4 (fun b => (bif Nat.beq b 1 then 9 else 8) * 16 ^ b)) b) (bif Nat.beq b 1 then 9 else 8)) = true := by decide +kernel
theorem we_11_2 : weB 11 2 weT_11_2 = true := by decide +kernel
theorem own_11_2 : allN 4 (fun b => Nat.beq (dgN (smN 4 (fun b => (bif Nat.beq b 2 then 9 else 8) * 16 ^ b)) b) (bif Nat.beq b 2 then 9 else 8)) = true := by decide +kernel
theorem we_11_3 : weB 11 3 weT_11_3 = true := by decide +kernel
theorem own_11_3 : allN 4 (fun b => Nat.beq (dgN (smN 4 (fun b => (bif Nat.beq b 3 then 9 else 8) * 16 ^ b)) b) (bif Nat.beq b 3 then 9 else 8)) = true := by decide +kernel
theorem we_12_0 : weB 12 0 weT_12_0 = true := by decide +kernel
theorem own_12_0 : allN 5 (fun b => Nat.beq (dgN (smN 5 (fun b => (bif Nat.beq b 0 then 9 else 8) * 16 ^ b)) b) (bif Nat.beq b 0 then 9 else 8)) = true := by decide +kernel
theorem we_12_1 : weB 12 1 weT_12_1 = true := by decide +kernel
theorem own_12_1 : allN 5 (fun b => Nat.beq (dgN (smN 5 (fun b => (bif Nat.beq b 1 then 9 else 8) * 16 ^ b)) b) (bif Nat.beq b 1 then 9 else 8)) = true := by decide +kernel
theorem we_12_2 : weB 12 2 weT_12_2 = true := by decide +kernel
theorem own_12_2 : allN 5 (fun b => Nat.beq (dgN (smN 5 (fun b => (bif Nat.beq b 2 then 9 else 8) * 16 ^ b)) b) (bif Nat.beq b 2 then 9 else 8)) = true := by decide +kernel
theorem we_12_3 : weB 12 3 weT_12_3 = true := by decide +kernel
theorem own_12_3 : allN 5 (fun b => Nat.beq (dgN (smN 5 (fun b => (bif Nat.beq b 3 then 9 else 8) * 16 ^ b)) b) (bif Nat.beq b 3 then 9 else 8)) = true := by decide +kernel
theorem we_12_4 : weB 12 4 weT_12_4 = true := by decide +kernel
theorem own_12_4 : allN 5 (fun b => Nat.beq (dgN (smN 5 (fun b => (bif Nat.beq b 4 then 9 else 8) * 16 ^ b)) b) (bif Nat.beq b 4 then 9 else 8)) = true := by decide +kernel
theorem we_13_0 : weB 13 0 weT_13_0 = true := by decide +kernel
theorem own_13_0 : allN 5 (fun b => Nat.beq (dgN (smN 5 (fun b => (bif Nat.beq b 0 then 9 else 8) * 16 ^ b)) b) (bif Nat.beq b 0 then 9 else 8)) = true := by decide +kernel
theorem we_13_1 : weB 13 1 weT_13_1 = true := by decide +kernel
theorem own_13_1 : allN 5 (fun b => Nat.beq (dgN (smN 5 (fun b => (bif Nat.beq b 1 then 9 else 8) * 16 ^ b)) b) (bif Nat.beq b 1 then 9 else 8)) = true := by decide +kernel
theorem we_13_2 : weB 13 2 weT_13_2 = true := by decide +kernel
theorem own_13_2 : allN 5 (fun b => Nat.beq (dgN (smN 5 (fun b => (bif Nat.beq b 2 then 9 else 8) * 16 ^ b)) b) (bif Nat.beq b 2 then 9 else 8)) = true := by decide +kernel
theorem we_13_3 : weB 13 3 weT_13_3 = true := by decide +kernel
theorem own_13_3 : allN 5 (fun b => Nat.beq (dgN (smN 5 (fun b => (bif Nat.beq b 3 then 9 else 8) * 16 ^ b)) b) (bif Nat.beq b 3 then 9 else 8)) = true := by decide +kernel
theorem we_13_4 : weB 13 4 weT_13_4 = true := by decide +kernel
theorem own_13_4 : allN 5 (fun b => Nat.beq (dgN (smN 5 (fun b => (bif Nat.beq b 4 then 9 else 8) * 16 ^ b)) b) (bif Nat.beq b 4 then 9 else 8)) = true := by decide +kernel
theorem we_14_0 : weB 14 0 weT_14_0 = true := by decide +kernel
theorem own_14_0 : allN 5 (fun b => Nat.beq (dgN (smN 5 (fun b => (bif Nat.beq b 0 then 9 else 8) * 16 ^ b)) b) (bif Nat.beq b 0 then 9 else 8)) = true := by decide +kernel
theorem we_14_1 : weB 14 1 weT_14_1 = true := by decide +kernel
theorem own_14_1 : allN 5 (fun b => Nat.beq (dgN (smN 5 (fun b => (bif Nat.beq b 1 then 9 else 8) * 16 ^ b)) b) (bif Nat.beq b 1 then 9 else 8)) = true := by decide +kernel
theorem we_14_2 : weB 14 2 weT_14_2 = true := by decide +kernel
theorem own_14_2 : allN 5 (fun b => Nat.beq (dgN (smN 5 (fun b => (bif Nat.beq b 2 then 9 else 8) * 16 ^ b)) b) (bif Nat.beq b 2 then 9 else 8)) = true := by decide +kernel
theorem we_14_3 : weB 14 3 weT_14_3 = true := by decide +kernel
theorem own_14_3 : allN 5 (fun b => Nat.beq (dgN (smN 5 (fun b => (bif Nat.beq b 3 then 9 else 8) * 16 ^ b)) b) (bif Nat.beq b 3 then 9 else 8)) = true := by decide +kernel
theorem we_14_4 : weB 14 4 weT_14_4 = true := by decide +kernel
theorem own_14_4 : allN 5 (fun b => Nat.beq (dgN (smN 5 (fun b => (bif Nat.beq b 4 then 9 else 8) * 16 ^ b)) b) (bif Nat.beq b 4 then 9 else 8)) = true := by decide +kernel
theorem we_15_0 : weB 15 0 weT_15_0 = true := by decide +kernel
theorem own_15_0 : allN 5 (fun b => Nat.beq (dgN (smN 5 (fun b => (bif Nat.beq b 0 then 9 else 8) * 16 ^ b)) b) (bif Nat.beq b 0 then 9 else 8)) = true := by decide +kernel
theorem we_15_1 : weB 15 1 weT_15_1 = true := by decide +kernel
theorem own_15_1 : allN 5 (fun b => Nat.beq (dgN (smN 5 (fun b => (bif Nat.beq b 1 then 9 else 8) * 16 ^ b)) b) (bif Nat.beq b 1 then 9 else 8)) = true := by decide +kernel
theorem we_15_2 : weB 15 2 weT_15_2 = true := by decide +kernel
theorem own_15_2 : allN 5 (fun b => Nat.beq (dgN (smN 5 (fun b => (bif Nat.beq b 2 then 9 else 8) * 16 ^ b)) b) (bif Nat.beq b 2 then 9 else 8)) = true := by decide +kernel
theorem we_15_3 : weB 15 3 weT_15_3 = true := by decide +kernel
theorem own_15_3 : allN 5 (fun b => Nat.beq (dgN (smN 5 (fun b => (bif Nat.beq b 3 then 9 else 8) * 16 ^ b)) b) (bif Nat.beq b 3 then 9 else 8)) = true := by decide +kernel
theorem we_15_4 : weB 15 4 weT_15_4 = true := by decide +kernel
theorem own_15_4 : allN 5 (fun b => Nat.beq (dgN (smN 5 (fun b => (bif Nat.beq b 4 then 9 else 8) * 16 ^ b)) b) (bif Nat.beq b 4 then 9 else 8)) = true := by decide +kernel
theorem we_16_0 : weB 16 0 weT_16_0 = true := by decide +kernel
theorem own_16_0 : allN 6 (fun b => Nat.beq (dgN (smN 6 (fun b => (bif Nat.beq b 0 then 9 else 8) * 16 ^ b)) b) (bif Nat.beq b 0 then 9 else 8)) = true := by decide +kernel
theorem we_16_1 : weB 16 1 weT_16_1 = true := by decide +kernel
theorem own_16_1 : allN 6 (fun b => Nat.beq (dgN (smN 6 (fun b => (bif Nat.beq b 1 then 9 else 8) * 16 ^ b)) b) (bif Nat.beq b 1 then 9 else 8)) = true := by decide +kernel
theorem we_16_2 : weB 16 2 weT_16_2 = true := by decide +kernel
theorem own_16_2 : allN 6 (fun b => Nat.beq (dgN (smN 6 (fun b => (bif Nat.beq b 2 then 9 else 8) * 16 ^ b)) b) (bif Nat.beq b 2 then 9 else 8)) = true := by decide +kernel
theorem we_16_3 : weB 16 3 weT_16_3 = true := by decide +kernel
theorem own_16_3 : allN 6 (fun b => Nat.beq (dgN (smN 6 (fun b => (bif Nat.beq b 3 then 9 else 8) * 16 ^ b)) b) (bif Nat.beq b 3 then 9 else 8)) = true := by decide +kernel
theorem we_16_4 : weB 16 4 weT_16_4 = true := by decide +kernel
theorem own_16_4 : allN 6 (fun b => Nat.beq (dgN (smN 6 (fun b => (bif Nat.beq b 4 then 9 else 8) * 16 ^ b)) b) (bif Nat.beq b 4 then 9 else 8)) = true := by decide +kernel
theorem we_16_5 : weB 16 5 weT_16_5 = true := by decide +kernel
theorem own_16_5 : allN 6 (fun b => Nat.beq (dgN (smN 6 (fun b => (bif Nat.beq b 5 then 9 else 8) * 16 ^ b)) b) (bif Nat.beq b 5 then 9 else 8)) = true := by decide +kernel
theorem we_17_0 : weB 17 0 weT_17_0 = true := by decide +kernel
theorem own_17_0 : allN 6 (fun b => Nat.beq (dgN (smN 6 (fun b => (bif Nat.beq b 0 then 9 else 8) * 16 ^ b)) b) (bif Nat.beq b 0 then 9 else 8)) = true := by decide +kernel
theorem we_17_1 : weB 17 1 weT_17_1 = true := by decide +kernel
theorem own_17_1 : allN 6 (fun b => Nat.beq (dgN (smN 6 (fun b => (bif Nat.beq b 1 then 9 else 8) * 16 ^ b)) b) (bif Nat.beq b 1 then 9 else 8)) = true := by decide +kernel
theorem we_17_2 : weB 17 2 weT_17_2 = true := by decide +kernel
theorem own_17_2 : allN 6 (fun b => Nat.beq (dgN (smN 6 (fun b => (bif Nat.beq b 2 then 9 else 8) * 16 ^ b)) b) (bif Nat.beq b 2 then 9 else 8)) = true := by decide +kernel
theorem we_17_3 : weB 17 3 weT_17_3 = true := by decide +kernel
theorem own_17_3 : allN 6 (fun b => Nat.beq (dgN (smN 6 (fun b => (bif Nat.beq b 3 then 9 else 8) * 16 ^ b)) b) (bif Nat.beq b 3 then 9 else 8)) = true := by decide +kernel
theorem we_17_4 : weB 17 4 weT_17_4 = true := by decide +kernel
theorem own_17_4 : allN 6 (fun b => Nat.beq (dgN (smN 6 (fun b => (bif Nat.beq b 4 then 9 else 8) * 16 ^ b)) b) (bif Nat.beq b 4 then 9 else 8)) = true := by decide +kernel
theorem we_17_5 : weB 17 5 weT_17_5 = true := by decide +kernel
theorem own_17_5 : allN 6 (fun b => Nat.beq (dgN (smN 6 (fun b => (bif Nat.beq b 5 then 9 else 8) * 16 ^ b)) b) (bif Nat.beq b 5 then 9 else 8)) = true := by decide +kernel
theorem we_18_0 : weB 18 0 weT_18_0 = true := by decide +kernel
theorem own_18_0 : allN 6 (fun b => Nat.beq (dgN (smN 6 (fun b => (bif Nat.beq b 0 then 9 else 8) * 16 ^ b)) b) (bif Nat.beq b 0 then 9 else 8)) = true := by decide +kernel
theorem we_18_1 : weB 18 1 weT_18_1 = true := by decide +kernel
theorem own_18_1 : allN 6 (fun b => Nat.beq (dgN (smN 6 (fun b => (bif Nat.beq b 1 then 9 else 8) * 16 ^ b)) b) (bif Nat.beq b 1 then 9 else 8)) = true := by decide +kernel
theorem we_18_2 : weB 18 2 weT_18_2 = true := by decide +kernel
theorem own_18_2 : allN 6 (fun b => Nat.beq (dgN (smN 6 (fun b => (bif Nat.beq b 2 then 9 else 8) * 16 ^ b)) b) (bif Nat.beq b 2 then 9 else 8)) = true := by decide +kernel
theorem we_18_3 : weB 18 3 weT_18_3 = true := by decide +kernel
theorem own_18_3 : allN 6 (fun b => Nat.beq (dgN (smN 6 (fun b => (bif Nat.beq b 3 then 9 else 8) * 16 ^ b)) b) (bif Nat.beq b 3 then 9 else 8)) = true := by decide +kernel
theorem we_18_4 : weB 18 4 weT_18_4 = true := by decide +kernel
theorem own_18_4 : allN 6 (fun b => Nat.beq (dgN (smN 6 (fun b => (bif Nat.beq b 4 then 9 else 8) * 16 ^ b)) b) (bif Nat.beq b 4 then 9 else 8)) = true := by decide +kernel
theorem we_18_5 : weB 18 5 weT_18_5 = true := by decide +kernel
theorem own_18_5 : allN 6 (fun b => Nat.beq (dgN (smN 6 (fun b => (bif Nat.beq b 5 then 9 else 8) * 16 ^ b)) b) (bif Nat.beq b 5 then 9 else 8)) = true := by decide +kernel
theorem we_19_0 : weB 19 0 weT_19_0 = true := by decide +kernel
theorem own_19_0 : allN 6 (fun b => Nat.beq (dgN (smN 6 (fun b => (bif Nat.beq b 0 then 9 else 8) * 16 ^ b)) b) (bif Nat.beq b 0 then 9 else 8)) = true := by decide +kernel
theorem we_19_1 : weB 19 1 weT_19_1 = true := by decide +kernel
theorem own_19_1 : allN 6 (fun b => Nat.beq (dgN (smN 6 (fun b => (bif Nat.beq b 1 then 9 else 8) * 16 ^ b)) b) (bif Nat.beq b 1 then 9 else 8)) = true := by decide +kernel
theorem we_19_2 : weB 19 2 weT_19_2 = true := by decide +kernel
theorem own_19_2 : allN 6 (fun b => Nat.beq (dgN (smN 6 (fun b => (bif Nat.beq b 2 then 9 else 8) * 16 ^ b)) b) (bif Nat.beq b 2 then 9 else 8)) = true := by decide +kernel
theorem we_19_3 : weB 19 3 weT_19_3 = true := by decide +kernel
theorem own_19_3 : allN 6 (fun b => Nat.beq (dgN (smN 6 (fun b => (bif Nat.beq b 3 then 9 else 8) * 16 ^ b)) b) (bif Nat.beq b 3 then 9 else 8)) = true := by decide +kernel
theorem we_19_4 : weB 19 4 weT_19_4 = true := by decide +kernel
theorem own_19_4 : allN 6 (fun b => Nat.beq (dgN (smN 6 (fun b => (bif Nat.beq b 4 then 9 else 8) * 16 ^ b)) b) (bif Nat.beq b 4 then 9 else 8)) = true := by decide +kernel
theorem we_19_5 : weB 19 5 weT_19_5 = true := by decide +kernel
theorem own_19_5 : allN 6 (fun b => Nat.beq (dgN (smN 6 (fun b => (bif Nat.beq b 5 then 9 else 8) * 16 ^ b)) b) (bif Nat.beq b 5 then 9 else 8)) = true := by decide +kernel
theorem we_20_0 : weB 20 0 weT_20_0 = true := by decide +kernel
theorem own_20_0 : allN 6 (fun b => Nat.beq (dgN (smN 6 (fun b => (bif Nat.beq b 0 then 9 else 8) * 16 ^ b)) b) (bif Nat.beq b 0 then 9 else 8)) = true := by decide +kernel
theorem we_20_1 : weB 20 1 weT_20_1 = true := by decide +kernel
theorem own_20_1 : allN 6 (fun b => Nat.beq (dgN (smN 6 (fun b => (bif Nat.beq b 1 then 9 else 8) * 16 ^ b)) b) (bif Nat.beq b 1 then 9 else 8)) = true := by decide +kernel
theorem we_20_2 : weB 20 2 weT_20_2 = true := by decide +kernel
theorem own_20_2 : allN 6 (fun b => Nat.beq (dgN (smN 6 (fun b => (bif Nat.beq b 2 then 9 else 8) * 16 ^ b)) b) (bif Nat.beq b 2 then 9 else 8)) = true := by decide +kernel
theorem we_20_3 : weB 20 3 weT_20_3 = true := by decide +kernel
theorem own_20_3 : allN 6 (fun b => Nat.beq (dgN (smN 6 (fun b => (bif Nat.beq b 3 then 9 else 8) * 16 ^ b)) b) (bif Nat.beq b 3 then 9 else 8)) = true := by decide +kernel
theorem we_20_4 : weB 20 4 weT_20_4 = true := by decide +kernel
theorem own_20_4 : allN 6 (fun b => Nat.beq (dgN (smN 6 (fun b => (bif Nat.beq b 4 then 9 else 8) * 16 ^ b)) b) (bif Nat.beq b 4 then 9 else 8)) = true := by decide +kernel
theorem we_20_5 : weB 20 5 weT_20_5 = true := by decide +kernel
theorem own_20_5 : allN 6 (fun b => Nat.beq (dgN (smN 6 (fun b => (bif Nat.beq b 5 then 9 else 8) * 16 ^ b)) b) (bif Nat.beq b 5 then 9 else 8)) = true := by decide +kernel
