/-! a method's contract in the words of the small machine; calls -/
def mcw (k : Nat) : Cond := match mhh k with
  | [] => .code (mnm k) (mby k) (mml k) (mret k)
  | h => .codeWith (mnm k) (mby k) (mml k) (mret k) h
def mcl_0 : List (Nat × Nat) := [(0, 6122), (1, 5008), (2, 2231), (3, 5231), (4, 1206), (5, 1230), (6, 2211), (7, 2017), (8, 1040), (9, 2038), (10, 2002), (11, 2034), (12, 1222), (13, 2006), (14, 1218), (15, 2066), (16, 2022), (17, 2030), (18, 2013), (19, 2095)]
set_option maxRecDepth 100000 in
theorem mcl_0_ok : ∀ q ∈ mcl_0, wat q.2 = some (mcw q.1) ∧ goodWord (mcw q.1) = true := List.forall_mem_cons.mpr ⟨⟨rfl, rfl⟩, List.forall_mem_cons.mpr ⟨⟨rfl, rfl⟩, List.forall_mem_cons.mpr ⟨⟨rfl, rfl⟩, List.forall_mem_cons.mpr ⟨⟨rfl, rfl⟩, List.forall_mem_cons.mpr ⟨⟨rfl, rfl⟩, List.forall_mem_cons.mpr ⟨⟨rfl, rfl⟩, List.forall_mem_cons.mpr ⟨⟨rfl, rfl⟩, List.forall_mem_cons.mpr ⟨⟨rfl, rfl⟩, List.forall_mem_cons.mpr ⟨⟨rfl, rfl⟩, List.forall_mem_cons.mpr ⟨⟨rfl, rfl⟩, List.forall_mem_cons.mpr ⟨⟨rfl, rfl⟩, List.forall_mem_cons.mpr ⟨⟨rfl, rfl⟩, List.forall_mem_cons.mpr ⟨⟨rfl, rfl⟩, List.forall_mem_cons.mpr ⟨⟨rfl, rfl⟩, List.forall_mem_cons.mpr ⟨⟨rfl, rfl⟩, List.forall_mem_cons.mpr ⟨⟨rfl, rfl⟩, List.forall_mem_cons.mpr ⟨⟨rfl, rfl⟩, List.forall_mem_cons.mpr ⟨⟨rfl, rfl⟩, List.forall_mem_cons.mpr ⟨⟨rfl, rfl⟩, List.forall_mem_cons.mpr ⟨⟨rfl, rfl⟩, fun _ h => absurd h List.not_mem_nil⟩⟩⟩⟩⟩⟩⟩⟩⟩⟩⟩⟩⟩⟩⟩⟩⟩⟩⟩⟩
theorem mcl_0_nm : ∀ q ∈ mcl_0, (plainName (mnm q.1).cls && decide ((mnm q.1).cls ≠ "java/lang/invoke/MethodHandle") && decide ((mnm q.1).cls ≠ "java/lang/invoke/VarHandle")) = true := by decide +kernel
def mcl_1 : List (Nat × Nat) := [(20, 2122), (21, 2062), (22, 2111), (23, 2081), (24, 1202), (25, 1237), (26, 1226), (27, 1233), (28, 1197), (29, 4232), (30, 1145), (31, 2042), (32, 2221), (33, 6087), (34, 1214), (35, 1052), (36, 2026), (37, 2051), (38, 2056), (39, 2107)]
set_option maxRecDepth 100000 in
theorem mcl_1_ok : ∀ q ∈ mcl_1, wat q.2 = some (mcw q.1) ∧ goodWord (mcw q.1) = true := List.forall_mem_cons.mpr ⟨⟨rfl, rfl⟩, List.forall_mem_cons.mpr ⟨⟨rfl, rfl⟩, List.forall_mem_cons.mpr ⟨⟨rfl, rfl⟩, List.forall_mem_cons.mpr ⟨⟨rfl, rfl⟩, List.forall_mem_cons.mpr ⟨⟨rfl, rfl⟩, List.forall_mem_cons.mpr ⟨⟨rfl, rfl⟩, List.forall_mem_cons.mpr ⟨⟨rfl, rfl⟩, List.forall_mem_cons.mpr ⟨⟨rfl, rfl⟩, List.forall_mem_cons.mpr ⟨⟨rfl, rfl⟩, List.forall_mem_cons.mpr ⟨⟨rfl, rfl⟩, List.forall_mem_cons.mpr ⟨⟨rfl, rfl⟩, List.forall_mem_cons.mpr ⟨⟨rfl, rfl⟩, List.forall_mem_cons.mpr ⟨⟨rfl, rfl⟩, List.forall_mem_cons.mpr ⟨⟨rfl, rfl⟩, List.forall_mem_cons.mpr ⟨⟨rfl, rfl⟩, List.forall_mem_cons.mpr ⟨⟨rfl, rfl⟩, List.forall_mem_cons.mpr ⟨⟨rfl, rfl⟩, List.forall_mem_cons.mpr ⟨⟨rfl, rfl⟩, List.forall_mem_cons.mpr ⟨⟨rfl, rfl⟩, List.forall_mem_cons.mpr ⟨⟨rfl, rfl⟩, fun _ h => absurd h List.not_mem_nil⟩⟩⟩⟩⟩⟩⟩⟩⟩⟩⟩⟩⟩⟩⟩⟩⟩⟩⟩⟩
theorem mcl_1_nm : ∀ q ∈ mcl_1, (plainName (mnm q.1).cls && decide ((mnm q.1).cls ≠ "java/lang/invoke/MethodHandle") && decide ((mnm q.1).cls ≠ "java/lang/invoke/VarHandle")) = true := by decide +kernel
def mcl_2 : List (Nat × Nat) := [(40, 2217), (41, 1210), (42, 5180), (43, 2185), (44, 2197), (45, 2133), (46, 2153), (47, 2189), (48, 2168), (49, 1046), (50, 5185), (51, 5090), (52, 2177), (53, 2157), (54, 2046), (55, 5196), (56, 2103), (57, 2141), (58, 5023), (59, 3082)]
set_option maxRecDepth 100000 in
theorem mcl_2_ok : ∀ q ∈ mcl_2, wat q.2 = some (mcw q.1) ∧ goodWord (mcw q.1) = true := List.forall_mem_cons.mpr ⟨⟨rfl, rfl⟩, List.forall_mem_cons.mpr ⟨⟨rfl, rfl⟩, List.forall_mem_cons.mpr ⟨⟨rfl, rfl⟩, List.forall_mem_cons.mpr ⟨⟨rfl, rfl⟩, List.forall_mem_cons.mpr ⟨⟨rfl, rfl⟩, List.forall_mem_cons.mpr ⟨⟨rfl, rfl⟩, List.forall_mem_cons.mpr ⟨⟨rfl, rfl⟩, List.forall_mem_cons.mpr ⟨⟨rfl, rfl⟩, List.forall_mem_cons.mpr ⟨⟨rfl, rfl⟩, List.forall_mem_cons.mpr ⟨⟨rfl, rfl⟩, List.forall_mem_cons.mpr ⟨⟨rfl, rfl⟩, List.forall_mem_cons.mpr ⟨⟨rfl, rfl⟩, List.forall_mem_cons.mpr ⟨⟨rfl, rfl⟩, List.forall_mem_cons.mpr ⟨⟨rfl, rfl⟩, List.forall_mem_cons.mpr ⟨⟨rfl, rfl⟩, List.forall_mem_cons.mpr ⟨⟨rfl, rfl⟩, List.forall_mem_cons.mpr ⟨⟨rfl, rfl⟩, List.forall_mem_cons.mpr ⟨⟨rfl, rfl⟩, List.forall_mem_cons.mpr ⟨⟨rfl, rfl⟩, List.forall_mem_cons.mpr ⟨⟨rfl, rfl⟩, fun _ h => absurd h List.not_mem_nil⟩⟩⟩⟩⟩⟩⟩⟩⟩⟩⟩⟩⟩⟩⟩⟩⟩⟩⟩⟩
theorem mcl_2_nm : ∀ q ∈ mcl_2, (plainName (mnm q.1).cls && decide ((mnm q.1).cls ≠ "java/lang/invoke/MethodHandle") && decide ((mnm q.1).cls ≠ "java/lang/invoke/VarHandle")) = true := by decide +kernel
def mcl_3 : List (Nat × Nat) := [(60, 2149), (61, 2074), (62, 2088), (63, 3086), (64, 6018), (65, 2207), (66, 2117), (67, 2145), (68, 2099), (69, 5019), (70, 5086), (71, 2173), (72, 2129), (73, 2181), (74, 6054), (75, 2164), (76, 5082), (77, 2193), (78, 3078), (79, 3099)]
set_option maxRecDepth 100000 in
theorem mcl_3_ok : ∀ q ∈ mcl_3, wat q.2 = some (mcw q.1) ∧ goodWord (mcw q.1) = true := List.forall_mem_cons.mpr ⟨⟨rfl, rfl⟩, List.forall_mem_cons.mpr ⟨⟨rfl, rfl⟩, List.forall_mem_cons.mpr ⟨⟨rfl, rfl⟩, List.forall_mem_cons.mpr ⟨⟨rfl, rfl⟩, List.forall_mem_cons.mpr ⟨⟨rfl, rfl⟩, List.forall_mem_cons.mpr ⟨⟨rfl, rfl⟩, List.forall_mem_cons.mpr ⟨⟨rfl, rfl⟩, List.forall_mem_cons.mpr ⟨⟨rfl, rfl⟩, List.forall_mem_cons.mpr ⟨⟨rfl, rfl⟩, List.forall_mem_cons.mpr ⟨⟨rfl, rfl⟩, List.forall_mem_cons.mpr ⟨⟨rfl, rfl⟩, List.forall_mem_cons.mpr ⟨⟨rfl, rfl⟩, List.forall_mem_cons.mpr ⟨⟨rfl, rfl⟩, List.forall_mem_cons.mpr ⟨⟨rfl, rfl⟩, List.forall_mem_cons.mpr ⟨⟨rfl, rfl⟩, List.forall_mem_cons.mpr ⟨⟨rfl, rfl⟩, List.forall_mem_cons.mpr ⟨⟨rfl, rfl⟩, List.forall_mem_cons.mpr ⟨⟨rfl, rfl⟩, List.forall_mem_cons.mpr ⟨⟨rfl, rfl⟩, List.forall_mem_cons.mpr ⟨⟨rfl, rfl⟩, fun _ h => absurd h List.not_mem_nil⟩⟩⟩⟩⟩⟩⟩⟩⟩⟩⟩⟩⟩⟩⟩⟩⟩⟩⟩⟩
theorem mcl_3_nm : ∀ q ∈ mcl_3, (plainName (mnm q.1).cls && decide ((mnm q.1).cls ≠ "java/lang/invoke/MethodHandle") && decide ((mnm q.1).cls ≠ "java/lang/invoke/VarHandle")) = true := by decide +kernel
def mcl_4 : List (Nat × Nat) := [(80, 6061), (81, 6072), (82, 5176), (83, 5163), (84, 5043), (85, 5210), (86, 6083), (87, 3066), (88, 3070), (89, 5149), (90, 4212), (91, 6014), (92, 5218), (93, 5203), (94, 3074), (95, 1032), (96, 5192), (97, 5000), (98, 2009), (99, 2084)]
set_option maxRecDepth 100000 in
theorem mcl_4_ok : ∀ q ∈ mcl_4, wat q.2 = some (mcw q.1) ∧ goodWord (mcw q.1) = true := List.forall_mem_cons.mpr ⟨⟨rfl, rfl⟩, List.forall_mem_cons.mpr ⟨⟨rfl, rfl⟩, List.forall_mem_cons.mpr ⟨⟨rfl, rfl⟩, List.forall_mem_cons.mpr ⟨⟨rfl, rfl⟩, List.forall_mem_cons.mpr ⟨⟨rfl, rfl⟩, List.forall_mem_cons.mpr ⟨⟨rfl, rfl⟩, List.forall_mem_cons.mpr ⟨⟨rfl, rfl⟩, List.forall_mem_cons.mpr ⟨⟨rfl, rfl⟩, List.forall_mem_cons.mpr ⟨⟨rfl, rfl⟩, List.forall_mem_cons.mpr ⟨⟨rfl, rfl⟩, List.forall_mem_cons.mpr ⟨⟨rfl, rfl⟩, List.forall_mem_cons.mpr ⟨⟨rfl, rfl⟩, List.forall_mem_cons.mpr ⟨⟨rfl, rfl⟩, List.forall_mem_cons.mpr ⟨⟨rfl, rfl⟩, List.forall_mem_cons.mpr ⟨⟨rfl, rfl⟩, List.forall_mem_cons.mpr ⟨⟨rfl, rfl⟩, List.forall_mem_cons.mpr ⟨⟨rfl, rfl⟩, List.forall_mem_cons.mpr ⟨⟨rfl, rfl⟩, List.forall_mem_cons.mpr ⟨⟨rfl, rfl⟩, List.forall_mem_cons.mpr ⟨⟨rfl, rfl⟩, fun _ h => absurd h List.not_mem_nil⟩⟩⟩⟩⟩⟩⟩⟩⟩⟩⟩⟩⟩⟩⟩⟩⟩⟩⟩⟩
theorem mcl_4_nm : ∀ q ∈ mcl_4, (plainName (mnm q.1).cls && decide ((mnm q.1).cls ≠ "java/lang/invoke/MethodHandle") && decide ((mnm q.1).cls ≠ "java/lang/invoke/VarHandle")) = true := by decide +kernel
def mcl_5 : List (Nat × Nat) := [(100, 5052), (101, 5077), (102, 5097), (103, 5168), (104, 6148), (105, 5225), (106, 5056), (107, 6005), (108, 5109), (109, 5035), (110, 6108), (111, 5122), (112, 6047), (113, 6104), (114, 5105), (115, 6129), (116, 6095), (117, 5031), (118, 6028), (119, 5118)]
set_option maxRecDepth 100000 in
theorem mcl_5_ok : ∀ q ∈ mcl_5, wat q.2 = some (mcw q.1) ∧ goodWord (mcw q.1) = true := List.forall_mem_cons.mpr ⟨⟨rfl, rfl⟩, List.forall_mem_cons.mpr ⟨⟨rfl, rfl⟩, List.forall_mem_cons.mpr ⟨⟨rfl, rfl⟩, List.forall_mem_cons.mpr ⟨⟨rfl, rfl⟩, List.forall_mem_cons.mpr ⟨⟨rfl, rfl⟩, List.forall_mem_cons.mpr ⟨⟨rfl, rfl⟩, List.forall_mem_cons.mpr ⟨⟨rfl, rfl⟩, List.forall_mem_cons.mpr ⟨⟨rfl, rfl⟩, List.forall_mem_cons.mpr ⟨⟨rfl, rfl⟩, List.forall_mem_cons.mpr ⟨⟨rfl, rfl⟩, List.forall_mem_cons.mpr ⟨⟨rfl, rfl⟩, List.forall_mem_cons.mpr ⟨⟨rfl, rfl⟩, List.forall_mem_cons.mpr ⟨⟨rfl, rfl⟩, List.forall_mem_cons.mpr ⟨⟨rfl, rfl⟩, List.forall_mem_cons.mpr ⟨⟨rfl, rfl⟩, List.forall_mem_cons.mpr ⟨⟨rfl, rfl⟩, List.forall_mem_cons.mpr ⟨⟨rfl, rfl⟩, List.forall_mem_cons.mpr ⟨⟨rfl, rfl⟩, List.forall_mem_cons.mpr ⟨⟨rfl, rfl⟩, List.forall_mem_cons.mpr ⟨⟨rfl, rfl⟩, fun _ h => absurd h List.not_mem_nil⟩⟩⟩⟩⟩⟩⟩⟩⟩⟩⟩⟩⟩⟩⟩⟩⟩⟩⟩⟩
theorem mcl_5_nm : ∀ q ∈ mcl_5, (plainName (mnm q.1).cls && decide ((mnm q.1).cls ≠ "java/lang/invoke/MethodHandle") && decide ((mnm q.1).cls ≠ "java/lang/invoke/VarHandle")) = true := by decide +kernel
def mcl_6 : List (Nat × Nat) := [(120, 4198), (121, 5156), (122, 6038), (123, 3090), (124, 6117), (125, 6001), (126, 5015), (127, 5139), (128, 5131), (129, 3095), (130, 6136), (131, 6140), (132, 3104), (133, 8181), (134, 8185), (135, 8041), (136, 7159), (137, 6181), (138, 8125), (139, 8121)]
set_option maxRecDepth 100000 in
theorem mcl_6_ok : ∀ q ∈ mcl_6, wat q.2 = some (mcw q.1) ∧ goodWord (mcw q.1) = true := List.forall_mem_cons.mpr ⟨⟨rfl, rfl⟩, List.forall_mem_cons.mpr ⟨⟨rfl, rfl⟩, List.forall_mem_cons.mpr ⟨⟨rfl, rfl⟩, List.forall_mem_cons.mpr ⟨⟨rfl, rfl⟩, List.forall_mem_cons.mpr ⟨⟨rfl, rfl⟩, List.forall_mem_cons.mpr ⟨⟨rfl, rfl⟩, List.forall_mem_cons.mpr ⟨⟨rfl, rfl⟩, List.forall_mem_cons.mpr ⟨⟨rfl, rfl⟩, List.forall_mem_cons.mpr ⟨⟨rfl, rfl⟩, List.forall_mem_cons.mpr ⟨⟨rfl, rfl⟩, List.forall_mem_cons.mpr ⟨⟨rfl, rfl⟩, List.forall_mem_cons.mpr ⟨⟨rfl, rfl⟩, List.forall_mem_cons.mpr ⟨⟨rfl, rfl⟩, List.forall_mem_cons.mpr ⟨⟨rfl, rfl⟩, List.forall_mem_cons.mpr ⟨⟨rfl, rfl⟩, List.forall_mem_cons.mpr ⟨⟨rfl, rfl⟩, List.forall_mem_cons.mpr ⟨⟨rfl, rfl⟩, List.forall_mem_cons.mpr ⟨⟨rfl, rfl⟩, List.forall_mem_cons.mpr ⟨⟨rfl, rfl⟩, List.forall_mem_cons.mpr ⟨⟨rfl, rfl⟩, fun _ h => absurd h List.not_mem_nil⟩⟩⟩⟩⟩⟩⟩⟩⟩⟩⟩⟩⟩⟩⟩⟩⟩⟩⟩⟩
theorem mcl_6_nm : ∀ q ∈ mcl_6, (plainName (mnm q.1).cls && decide ((mnm q.1).cls ≠ "java/lang/invoke/MethodHandle") && decide ((mnm q.1).cls ≠ "java/lang/invoke/VarHandle")) = true := by decide +kernel
def mcl_7 : List (Nat × Nat) := [(140, 8117), (141, 8002), (142, 6188), (143, 8053), (144, 7226), (145, 8141), (146, 8013), (147, 8189), (148, 8029), (149, 8033), (150, 7091), (151, 8109), (152, 7046), (153, 7054), (154, 8165), (155, 8149), (156, 7179), (157, 7238), (158, 7234), (159, 8137)]
set_option maxRecDepth 100000 in
theorem mcl_7_ok : ∀ q ∈ mcl_7, wat q.2 = some (mcw q.1) ∧ goodWord (mcw q.1) = true := List.forall_mem_cons.mpr ⟨⟨rfl, rfl⟩, List.forall_mem_cons.mpr ⟨⟨rfl, rfl⟩, List.forall_mem_cons.mpr ⟨⟨rfl, rfl⟩, List.forall_mem_cons.mpr ⟨⟨rfl, rfl⟩, List.forall_mem_cons.mpr ⟨⟨rfl, rfl⟩, List.forall_mem_cons.mpr ⟨⟨rfl, rfl⟩, List.forall_mem_cons.mpr ⟨⟨rfl, rfl⟩, List.forall_mem_cons.mpr ⟨⟨rfl, rfl⟩, List.forall_mem_cons.mpr ⟨⟨rfl, rfl⟩, List.forall_mem_cons.mpr ⟨⟨rfl, rfl⟩, List.forall_mem_cons.mpr ⟨⟨rfl, rfl⟩, List.forall_mem_cons.mpr ⟨⟨rfl, rfl⟩, List.forall_mem_cons.mpr ⟨⟨rfl, rfl⟩, List.forall_mem_cons.mpr ⟨⟨rfl, rfl⟩, List.forall_mem_cons.mpr ⟨⟨rfl, rfl⟩, List.forall_mem_cons.mpr ⟨⟨rfl, rfl⟩, List.forall_mem_cons.mpr ⟨⟨rfl, rfl⟩, List.forall_mem_cons.mpr ⟨⟨rfl, rfl⟩, List.forall_mem_cons.mpr ⟨⟨rfl, rfl⟩, List.forall_mem_cons.mpr ⟨⟨rfl, rfl⟩, fun _ h => absurd h List.not_mem_nil⟩⟩⟩⟩⟩⟩⟩⟩⟩⟩⟩⟩⟩⟩⟩⟩⟩⟩⟩⟩
theorem mcl_7_nm : ∀ q ∈ mcl_7, (plainName (mnm q.1).cls && decide ((mnm q.1).cls ≠ "java/lang/invoke/MethodHandle") && decide ((mnm q.1).cls ≠ "java/lang/invoke/VarHandle")) = true := by decide +kernel
def mcl_8 : List (Nat × Nat) := [(160, 8093), (161, 7103), (162, 7099), (163, 7065), (164, 6176), (165, 7171), (166, 7083), (167, 7087), (168, 7080), (169, 7183), (170, 8061), (171, 7119), (172, 7151), (173, 7175), (174, 8081), (175, 8089), (176, 6195), (177, 7230), (178, 8069), (179, 8129)]
set_option maxRecDepth 100000 in
theorem mcl_8_ok : ∀ q ∈ mcl_8, wat q.2 = some (mcw q.1) ∧ goodWord (mcw q.1) = true := List.forall_mem_cons.mpr ⟨⟨rfl, rfl⟩, List.forall_mem_cons.mpr ⟨⟨rfl, rfl⟩, List.forall_mem_cons.mpr ⟨⟨rfl, rfl⟩, List.forall_mem_cons.mpr ⟨⟨rfl, rfl⟩, List.forall_mem_cons.mpr ⟨⟨rfl, rfl⟩, List.forall_mem_cons.mpr ⟨⟨rfl, rfl⟩, List.forall_mem_cons.mpr ⟨⟨rfl, rfl⟩, List.forall_mem_cons.mpr ⟨⟨rfl, rfl⟩, List.forall_mem_cons.mpr ⟨⟨rfl, rfl⟩, List.forall_mem_cons.mpr ⟨⟨rfl, rfl⟩, List.forall_mem_cons.mpr ⟨⟨rfl, rfl⟩, List.forall_mem_cons.mpr ⟨⟨rfl, rfl⟩, List.forall_mem_cons.mpr ⟨⟨rfl, rfl⟩, List.forall_mem_cons.mpr ⟨⟨rfl, rfl⟩, List.forall_mem_cons.mpr ⟨⟨rfl, rfl⟩, List.forall_mem_cons.mpr ⟨⟨rfl, rfl⟩, List.forall_mem_cons.mpr ⟨⟨rfl, rfl⟩, List.forall_mem_cons.mpr ⟨⟨rfl, rfl⟩, List.forall_mem_cons.mpr ⟨⟨rfl, rfl⟩, List.forall_mem_cons.mpr ⟨⟨rfl, rfl⟩, fun _ h => absurd h List.not_mem_nil⟩⟩⟩⟩⟩⟩⟩⟩⟩⟩⟩⟩⟩⟩⟩⟩⟩⟩⟩⟩
theorem mcl_8_nm : ∀ q ∈ mcl_8, (plainName (mnm q.1).cls && decide ((mnm q.1).cls ≠ "java/lang/invoke/MethodHandle") && decide ((mnm q.1).cls ≠ "java/lang/invoke/VarHandle")) = true := by decide +kernel
def mcl_9 : List (Nat × Nat) := [(180, 8133), (181, 7062), (182, 7143), (183, 6184), (184, 8045), (185, 8057), (186, 7123), (187, 8073), (188, 7077), (189, 8229), (190, 8153), (191, 7139), (192, 6202), (193, 7202), (194, 7218), (195, 7069), (196, 8025), (197, 7107), (198, 7115), (199, 7135)]
set_option maxRecDepth 100000 in
theorem mcl_9_ok : ∀ q ∈ mcl_9, wat q.2 = some (mcw q.1) ∧ goodWord (mcw q.1) = true := List.forall_mem_cons.mpr ⟨⟨rfl, rfl⟩, List.forall_mem_cons.mpr ⟨⟨rfl, rfl⟩, List.forall_mem_cons.mpr ⟨⟨rfl, rfl⟩, List.forall_mem_cons.mpr ⟨⟨rfl, rfl⟩, List.forall_mem_cons.mpr ⟨⟨rfl, rfl⟩, List.forall_mem_cons.mpr ⟨⟨rfl, rfl⟩, List.forall_mem_cons.mpr ⟨⟨rfl, rfl⟩, List.forall_mem_cons.mpr ⟨⟨rfl, rfl⟩, List.forall_mem_cons.mpr ⟨⟨rfl, rfl⟩, List.forall_mem_cons.mpr ⟨⟨rfl, rfl⟩, List.forall_mem_cons.mpr ⟨⟨rfl, rfl⟩, List.forall_mem_cons.mpr ⟨⟨rfl, rfl⟩, List.forall_mem_cons.mpr ⟨⟨rfl, rfl⟩, List.forall_mem_cons.mpr ⟨⟨rfl, rfl⟩, List.forall_mem_cons.mpr ⟨⟨rfl, rfl⟩, List.forall_mem_cons.mpr ⟨⟨rfl, rfl⟩, List.forall_mem_cons.mpr ⟨⟨rfl, rfl⟩, List.forall_mem_cons.mpr ⟨⟨rfl, rfl⟩, List.forall_mem_cons.mpr ⟨⟨rfl, rfl⟩, List.forall_mem_cons.mpr ⟨⟨rfl, rfl⟩, fun _ h => absurd h List.not_mem_nil⟩⟩⟩⟩⟩⟩⟩⟩⟩⟩⟩⟩⟩⟩⟩⟩⟩⟩⟩⟩
theorem mcl_9_nm : ∀ q ∈ mcl_9, (plainName (mnm q.1).cls && decide ((mnm q.1).cls ≠ "java/lang/invoke/MethodHandle") && decide ((mnm q.1).cls ≠ "java/lang/invoke/VarHandle")) = true := by decide +kernel
def mcl_10 : List (Nat × Nat) := [(200, 8017), (201, 7127), (202, 7111), (203, 7073), (204, 7163), (205, 7050), (206, 8157), (207, 8177), (208, 8197), (209, 8021), (210, 7206), (211, 6191), (212, 8077), (213, 7198), (214, 8205), (215, 8193), (216, 8049), (217, 7214), (218, 8169), (219, 8085)]
set_option maxRecDepth 100000 in
theorem mcl_10_ok : ∀ q ∈ mcl_10, wat q.2 = some (mcw q.1) ∧ goodWord (mcw q.1) = true := List.forall_mem_cons.mpr ⟨⟨rfl, rfl⟩, List.forall_mem_cons.mpr ⟨⟨rfl, rfl⟩, List.forall_mem_cons.mpr ⟨⟨rfl, rfl⟩, List.forall_mem_cons.mpr ⟨⟨rfl, rfl⟩, List.forall_mem_cons.mpr ⟨⟨rfl, rfl⟩, List.forall_mem_cons.mpr ⟨⟨rfl, rfl⟩, List.forall_mem_cons.mpr ⟨⟨rfl, rfl⟩, List.forall_mem_cons.mpr ⟨⟨rfl, rfl⟩, List.forall_mem_cons.mpr ⟨⟨rfl, rfl⟩, List.forall_mem_cons.mpr ⟨⟨rfl, rfl⟩, List.forall_mem_cons.mpr ⟨⟨rfl, rfl⟩, List.forall_mem_cons.mpr ⟨⟨rfl, rfl⟩, List.forall_mem_cons.mpr ⟨⟨rfl, rfl⟩, List.forall_mem_cons.mpr ⟨⟨rfl, rfl⟩, List.forall_mem_cons.mpr ⟨⟨rfl, rfl⟩, List.forall_mem_cons.mpr ⟨⟨rfl, rfl⟩, List.forall_mem_cons.mpr ⟨⟨rfl, rfl⟩, List.forall_mem_cons.mpr ⟨⟨rfl, rfl⟩, List.forall_mem_cons.mpr ⟨⟨rfl, rfl⟩, List.forall_mem_cons.mpr ⟨⟨rfl, rfl⟩, fun _ h => absurd h List.not_mem_nil⟩⟩⟩⟩⟩⟩⟩⟩⟩⟩⟩⟩⟩⟩⟩⟩⟩⟩⟩⟩
theorem mcl_10_nm : ∀ q ∈ mcl_10, (plainName (mnm q.1).cls && decide ((mnm q.1).cls ≠ "java/lang/invoke/MethodHandle") && decide ((mnm q.1).cls ≠ "java/lang/invoke/VarHandle")) = true := by decide +kernel
def mcl_11 : List (Nat × Nat) := [(220, 6198), (221, 7095), (222, 7131), (223, 7042), (224, 7187), (225, 8113), (226, 7210), (227, 7058), (228, 8173), (229, 8105), (230, 7167), (231, 7194), (232, 8201), (233, 8161), (234, 8037), (235, 7155), (236, 7147), (237, 8009), (238, 8006), (239, 8101)]
set_option maxRecDepth 100000 in
theorem mcl_11_ok : ∀ q ∈ mcl_11, wat q.2 = some (mcw q.1) ∧ goodWord (mcw q.1) = true := List.forall_mem_cons.mpr ⟨⟨rfl, rfl⟩, List.forall_mem_cons.mpr ⟨⟨rfl, rfl⟩, List.forall_mem_cons.mpr ⟨⟨rfl, rfl⟩, List.forall_mem_cons.mpr ⟨⟨rfl, rfl⟩, List.forall_mem_cons.mpr ⟨⟨rfl, rfl⟩, List.forall_mem_cons.mpr ⟨⟨rfl, rfl⟩, List.forall_mem_cons.mpr ⟨⟨rfl, rfl⟩, List.forall_mem_cons.mpr ⟨⟨rfl, rfl⟩, List.forall_mem_cons.mpr ⟨⟨rfl, rfl⟩, List.forall_mem_cons.mpr ⟨⟨rfl, rfl⟩, List.forall_mem_cons.mpr ⟨⟨rfl, rfl⟩, List.forall_mem_cons.mpr ⟨⟨rfl, rfl⟩, List.forall_mem_cons.mpr ⟨⟨rfl, rfl⟩, List.forall_mem_cons.mpr ⟨⟨rfl, rfl⟩, List.forall_mem_cons.mpr ⟨⟨rfl, rfl⟩, List.forall_mem_cons.mpr ⟨⟨rfl, rfl⟩, List.forall_mem_cons.mpr ⟨⟨rfl, rfl⟩, List.forall_mem_cons.mpr ⟨⟨rfl, rfl⟩, List.forall_mem_cons.mpr ⟨⟨rfl, rfl⟩, List.forall_mem_cons.mpr ⟨⟨rfl, rfl⟩, fun _ h => absurd h List.not_mem_nil⟩⟩⟩⟩⟩⟩⟩⟩⟩⟩⟩⟩⟩⟩⟩⟩⟩⟩⟩⟩
theorem mcl_11_nm : ∀ q ∈ mcl_11, (plainName (mnm q.1).cls && decide ((mnm q.1).cls ≠ "java/lang/invoke/MethodHandle") && decide ((mnm q.1).cls ≠ "java/lang/invoke/VarHandle")) = true := by decide +kernel
def mcl_12 : List (Nat × Nat) := [(240, 8097), (241, 7190), (242, 7222), (243, 8145), (244, 8065), (245, 8209), (246, 8225), (247, 8213), (248, 8221), (249, 8217), (250, 6057), (251, 6068), (252, 5172), (253, 5159), (254, 5039), (255, 5206), (256, 6079), (257, 5145), (258, 4207), (259, 6010)]
set_option maxRecDepth 100000 in
theorem mcl_12_ok : ∀ q ∈ mcl_12, wat q.2 = some (mcw q.1) ∧ goodWord (mcw q.1) = true := List.forall_mem_cons.mpr ⟨⟨rfl, rfl⟩, List.forall_mem_cons.mpr ⟨⟨rfl, rfl⟩, List.forall_mem_cons.mpr ⟨⟨rfl, rfl⟩, List.forall_mem_cons.mpr ⟨⟨rfl, rfl⟩, List.forall_mem_cons.mpr ⟨⟨rfl, rfl⟩, List.forall_mem_cons.mpr ⟨⟨rfl, rfl⟩, List.forall_mem_cons.mpr ⟨⟨rfl, rfl⟩, List.forall_mem_cons.mpr ⟨⟨rfl, rfl⟩, List.forall_mem_cons.mpr ⟨⟨rfl, rfl⟩, List.forall_mem_cons.mpr ⟨⟨rfl, rfl⟩, List.forall_mem_cons.mpr ⟨⟨rfl, rfl⟩, List.forall_mem_cons.mpr ⟨⟨rfl, rfl⟩, List.forall_mem_cons.mpr ⟨⟨rfl, rfl⟩, List.forall_mem_cons.mpr ⟨⟨rfl, rfl⟩, List.forall_mem_cons.mpr ⟨⟨rfl, rfl⟩, List.forall_mem_cons.mpr ⟨⟨rfl, rfl⟩, List.forall_mem_cons.mpr ⟨⟨rfl, rfl⟩, List.forall_mem_cons.mpr ⟨⟨rfl, rfl⟩, List.forall_mem_cons.mpr ⟨⟨rfl, rfl⟩, List.forall_mem_cons.mpr ⟨⟨rfl, rfl⟩, fun _ h => absurd h List.not_mem_nil⟩⟩⟩⟩⟩⟩⟩⟩⟩⟩⟩⟩⟩⟩⟩⟩⟩⟩⟩⟩
theorem mcl_12_nm : ∀ q ∈ mcl_12, (plainName (mnm q.1).cls && decide ((mnm q.1).cls ≠ "java/lang/invoke/MethodHandle") && decide ((mnm q.1).cls ≠ "java/lang/invoke/VarHandle")) = true := by decide +kernel
def mcl_13 : List (Nat × Nat) := [(260, 5214), (261, 5199), (262, 5188), (263, 4235), (264, 5047), (265, 5093), (266, 6143), (267, 5221), (268, 6043), (269, 6100), (270, 5101), (271, 6125), (272, 6091), (273, 5027), (274, 6024), (275, 5114), (276, 5152), (277, 6034), (278, 6113), (279, 5237)]
set_option maxRecDepth 100000 in
theorem mcl_13_ok : ∀ q ∈ mcl_13, wat q.2 = some (mcw q.1) ∧ goodWord (mcw q.1) = true := List.forall_mem_cons.mpr ⟨⟨rfl, rfl⟩, List.forall_mem_cons.mpr ⟨⟨rfl, rfl⟩, List.forall_mem_cons.mpr ⟨⟨rfl, rfl⟩, List.forall_mem_cons.mpr ⟨⟨rfl, rfl⟩, List.forall_mem_cons.mpr ⟨⟨rfl, rfl⟩, List.forall_mem_cons.mpr ⟨⟨rfl, rfl⟩, List.forall_mem_cons.mpr ⟨⟨rfl, rfl⟩, List.forall_mem_cons.mpr ⟨⟨rfl, rfl⟩, List.forall_mem_cons.mpr ⟨⟨rfl, rfl⟩, List.forall_mem_cons.mpr ⟨⟨rfl, rfl⟩, List.forall_mem_cons.mpr ⟨⟨rfl, rfl⟩, List.forall_mem_cons.mpr ⟨⟨rfl, rfl⟩, List.forall_mem_cons.mpr ⟨⟨rfl, rfl⟩, List.forall_mem_cons.mpr ⟨⟨rfl, rfl⟩, List.forall_mem_cons.mpr ⟨⟨rfl, rfl⟩, List.forall_mem_cons.mpr ⟨⟨rfl, rfl⟩, List.forall_mem_cons.mpr ⟨⟨rfl, rfl⟩, List.forall_mem_cons.mpr ⟨⟨rfl, rfl⟩, List.forall_mem_cons.mpr ⟨⟨rfl, rfl⟩, List.forall_mem_cons.mpr ⟨⟨rfl, rfl⟩, fun _ h => absurd h List.not_mem_nil⟩⟩⟩⟩⟩⟩⟩⟩⟩⟩⟩⟩⟩⟩⟩⟩⟩⟩⟩⟩
theorem mcl_13_nm : ∀ q ∈ mcl_13, (plainName (mnm q.1).cls && decide ((mnm q.1).cls ≠ "java/lang/invoke/MethodHandle") && decide ((mnm q.1).cls ≠ "java/lang/invoke/VarHandle")) = true := by decide +kernel
def mcl_14 : List (Nat × Nat) := [(280, 5011), (281, 5135), (282, 5127), (283, 6132), (284, 1159), (285, 3173), (286, 3205), (287, 1169), (288, 1153), (289, 3212), (290, 4008), (291, 4011), (292, 1163), (293, 1149), (294, 4191), (295, 1166), (296, 4145), (297, 3196), (298, 1177), (299, 3170)]
set_option maxRecDepth 100000 in
theorem mcl_14_ok : ∀ q ∈ mcl_14, wat q.2 = some (mcw q.1) ∧ goodWord (mcw q.1) = true := List.forall_mem_cons.mpr ⟨⟨rfl, rfl⟩, List.forall_mem_cons.mpr ⟨⟨rfl, rfl⟩, List.forall_mem_cons.mpr ⟨⟨rfl, rfl⟩, List.forall_mem_cons.mpr ⟨⟨rfl, rfl⟩, List.forall_mem_cons.mpr ⟨⟨rfl, rfl⟩, List.forall_mem_cons.mpr ⟨⟨rfl, rfl⟩, List.forall_mem_cons.mpr ⟨⟨rfl, rfl⟩, List.forall_mem_cons.mpr ⟨⟨rfl, rfl⟩, List.forall_mem_cons.mpr ⟨⟨rfl, rfl⟩, List.forall_mem_cons.mpr ⟨⟨rfl, rfl⟩, List.forall_mem_cons.mpr ⟨⟨rfl, rfl⟩, List.forall_mem_cons.mpr ⟨⟨rfl, rfl⟩, List.forall_mem_cons.mpr ⟨⟨rfl, rfl⟩, List.forall_mem_cons.mpr ⟨⟨rfl, rfl⟩, List.forall_mem_cons.mpr ⟨⟨rfl, rfl⟩, List.forall_mem_cons.mpr ⟨⟨rfl, rfl⟩, List.forall_mem_cons.mpr ⟨⟨rfl, rfl⟩, List.forall_mem_cons.mpr ⟨⟨rfl, rfl⟩, List.forall_mem_cons.mpr ⟨⟨rfl, rfl⟩, List.forall_mem_cons.mpr ⟨⟨rfl, rfl⟩, fun _ h => absurd h List.not_mem_nil⟩⟩⟩⟩⟩⟩⟩⟩⟩⟩⟩⟩⟩⟩⟩⟩⟩⟩⟩⟩
theorem mcl_14_nm : ∀ q ∈ mcl_14, (plainName (mnm q.1).cls && decide ((mnm q.1).cls ≠ "java/lang/invoke/MethodHandle") && decide ((mnm q.1).cls ≠ "java/lang/invoke/VarHandle")) = true := by decide +kernel
def mcl_15 : List (Nat × Nat) := [(300, 3202), (301, 1180), (302, 4120), (303, 4113), (304, 4116), (305, 4180), (306, 1187), (307, 3234), (308, 3237), (309, 3199), (310, 1183), (311, 3018), (312, 3021), (313, 4194), (314, 3179), (315, 3167), (316, 3208), (317, 3176), (318, 1174), (319, 3123)]
set_option maxRecDepth 100000 in
theorem mcl_15_ok : ∀ q ∈ mcl_15, wat q.2 = some (mcw q.1) ∧ goodWord (mcw q.1) = true := List.forall_mem_cons.mpr ⟨⟨rfl, rfl⟩, List.forall_mem_cons.mpr ⟨⟨rfl, rfl⟩, List.forall_mem_cons.mpr ⟨⟨rfl, rfl⟩, List.forall_mem_cons.mpr ⟨⟨rfl, rfl⟩, List.forall_mem_cons.mpr ⟨⟨rfl, rfl⟩, List.forall_mem_cons.mpr ⟨⟨rfl, rfl⟩, List.forall_mem_cons.mpr ⟨⟨rfl, rfl⟩, List.forall_mem_cons.mpr ⟨⟨rfl, rfl⟩, List.forall_mem_cons.mpr ⟨⟨rfl, rfl⟩, List.forall_mem_cons.mpr ⟨⟨rfl, rfl⟩, List.forall_mem_cons.mpr ⟨⟨rfl, rfl⟩, List.forall_mem_cons.mpr ⟨⟨rfl, rfl⟩, List.forall_mem_cons.mpr ⟨⟨rfl, rfl⟩, List.forall_mem_cons.mpr ⟨⟨rfl, rfl⟩, List.forall_mem_cons.mpr ⟨⟨rfl, rfl⟩, List.forall_mem_cons.mpr ⟨⟨rfl, rfl⟩, List.forall_mem_cons.mpr ⟨⟨rfl, rfl⟩, List.forall_mem_cons.mpr ⟨⟨rfl, rfl⟩, List.forall_mem_cons.mpr ⟨⟨rfl, rfl⟩, List.forall_mem_cons.mpr ⟨⟨rfl, rfl⟩, fun _ h => absurd h List.not_mem_nil⟩⟩⟩⟩⟩⟩⟩⟩⟩⟩⟩⟩⟩⟩⟩⟩⟩⟩⟩⟩
theorem mcl_15_nm : ∀ q ∈ mcl_15, (plainName (mnm q.1).cls && decide ((mnm q.1).cls ≠ "java/lang/invoke/MethodHandle") && decide ((mnm q.1).cls ≠ "java/lang/invoke/VarHandle")) = true := by decide +kernel
def mcl_16 : List (Nat × Nat) := [(320, 3218), (321, 4185), (322, 6165), (323, 3010), (324, 4023), (325, 3108), (326, 4003), (327, 3130), (328, 4188), (329, 3221), (330, 3126), (331, 6168), (332, 3134), (333, 4017), (334, 3188), (335, 3193), (336, 3013), (337, 3164), (338, 4025), (339, 3138)]
set_option maxRecDepth 100000 in
theorem mcl_16_ok : ∀ q ∈ mcl_16, wat q.2 = some (mcw q.1) ∧ goodWord (mcw q.1) = true := List.forall_mem_cons.mpr ⟨⟨rfl, rfl⟩, List.forall_mem_cons.mpr ⟨⟨rfl, rfl⟩, List.forall_mem_cons.mpr ⟨⟨rfl, rfl⟩, List.forall_mem_cons.mpr ⟨⟨rfl, rfl⟩, List.forall_mem_cons.mpr ⟨⟨rfl, rfl⟩, List.forall_mem_cons.mpr ⟨⟨rfl, rfl⟩, List.forall_mem_cons.mpr ⟨⟨rfl, rfl⟩, List.forall_mem_cons.mpr ⟨⟨rfl, rfl⟩, List.forall_mem_cons.mpr ⟨⟨rfl, rfl⟩, List.forall_mem_cons.mpr ⟨⟨rfl, rfl⟩, List.forall_mem_cons.mpr ⟨⟨rfl, rfl⟩, List.forall_mem_cons.mpr ⟨⟨rfl, rfl⟩, List.forall_mem_cons.mpr ⟨⟨rfl, rfl⟩, List.forall_mem_cons.mpr ⟨⟨rfl, rfl⟩, List.forall_mem_cons.mpr ⟨⟨rfl, rfl⟩, List.forall_mem_cons.mpr ⟨⟨rfl, rfl⟩, List.forall_mem_cons.mpr ⟨⟨rfl, rfl⟩, List.forall_mem_cons.mpr ⟨⟨rfl, rfl⟩, List.forall_mem_cons.mpr ⟨⟨rfl, rfl⟩, List.forall_mem_cons.mpr ⟨⟨rfl, rfl⟩, fun _ h => absurd h List.not_mem_nil⟩⟩⟩⟩⟩⟩⟩⟩⟩⟩⟩⟩⟩⟩⟩⟩⟩⟩⟩⟩
theorem mcl_16_nm : ∀ q ∈ mcl_16, (plainName (mnm q.1).cls && decide ((mnm q.1).cls ≠ "java/lang/invoke/MethodHandle") && decide ((mnm q.1).cls ≠ "java/lang/invoke/VarHandle")) = true := by decide +kernel
def mcl_17 : List (Nat × Nat) := [(340, 3184), (341, 3111), (342, 2200), (343, 3227), (344, 3224), (345, 4035), (346, 4032), (347, 4029), (348, 3150), (349, 4148), (350, 4151), (351, 3146), (352, 3141), (352, 3141), (352, 3141), (352, 3141), (356, 4168), (357, 3116)]
set_option maxRecDepth 100000 in
theorem mcl_17_ok : ∀ q ∈ mcl_17, wat q.2 = some (mcw q.1) ∧ goodWord (mcw q.1) = true := List.forall_mem_cons.mpr ⟨⟨rfl, rfl⟩, List.forall_mem_cons.mpr ⟨⟨rfl, rfl⟩, List.forall_mem_cons.mpr ⟨⟨rfl, rfl⟩, List.forall_mem_cons.mpr ⟨⟨rfl, rfl⟩, List.forall_mem_cons.mpr ⟨⟨rfl, rfl⟩, List.forall_mem_cons.mpr ⟨⟨rfl, rfl⟩, List.forall_mem_cons.mpr ⟨⟨rfl, rfl⟩, List.forall_mem_cons.mpr ⟨⟨rfl, rfl⟩, List.forall_mem_cons.mpr ⟨⟨rfl, rfl⟩, List.forall_mem_cons.mpr ⟨⟨rfl, rfl⟩, List.forall_mem_cons.mpr ⟨⟨rfl, rfl⟩, List.forall_mem_cons.mpr ⟨⟨rfl, rfl⟩, List.forall_mem_cons.mpr ⟨⟨rfl, rfl⟩, List.forall_mem_cons.mpr ⟨⟨rfl, rfl⟩, List.forall_mem_cons.mpr ⟨⟨rfl, rfl⟩, List.forall_mem_cons.mpr ⟨⟨rfl, rfl⟩, List.forall_mem_cons.mpr ⟨⟨rfl, rfl⟩, List.forall_mem_cons.mpr ⟨⟨rfl, rfl⟩, fun _ h => absurd h List.not_mem_nil⟩⟩⟩⟩⟩⟩⟩⟩⟩⟩⟩⟩⟩⟩⟩⟩⟩⟩
theorem mcl_17_nm : ∀ q ∈ mcl_17, (plainName (mnm q.1).cls && decide ((mnm q.1).cls ≠ "java/lang/invoke/MethodHandle") && decide ((mnm q.1).cls ≠ "java/lang/invoke/VarHandle")) = true := by decide +kernel
def mcl : List (Nat × Nat) := mcl_0 ++ (mcl_1 ++ (mcl_2 ++ (mcl_3 ++ (mcl_4 ++ (mcl_5 ++ (mcl_6 ++ (mcl_7 ++ (mcl_8 ++ (mcl_9 ++ (mcl_10 ++ (mcl_11 ++ (mcl_12 ++ (mcl_13 ++ (mcl_14 ++ (mcl_15 ++ (mcl_16 ++ (mcl_17)))))))))))))))))
theorem mcl_ok : ∀ q ∈ mcl, (wat q.2 = some (mcw q.1) ∧ goodWord (mcw q.1) = true) ∧ (plainName (mnm q.1).cls && decide ((mnm q.1).cls ≠ "java/lang/invoke/MethodHandle") && decide ((mnm q.1).cls ≠ "java/lang/invoke/VarHandle")) = true := by
  intro q hq
  unfold mcl at hq
  rcases List.mem_append.mp hq with hq | hq
  · exact ⟨mcl_0_ok q hq, mcl_0_nm q hq⟩
  rcases List.mem_append.mp hq with hq | hq
  · exact ⟨mcl_1_ok q hq, mcl_1_nm q hq⟩
  rcases List.mem_append.mp hq with hq | hq
  · exact ⟨mcl_2_ok q hq, mcl_2_nm q hq⟩
  rcases List.mem_append.mp hq with hq | hq
  · exact ⟨mcl_3_ok q hq, mcl_3_nm q hq⟩
  rcases List.mem_append.mp hq with hq | hq
  · exact ⟨mcl_4_ok q hq, mcl_4_nm q hq⟩
  rcases List.mem_append.mp hq with hq | hq
  · exact ⟨mcl_5_ok q hq, mcl_5_nm q hq⟩
  rcases List.mem_append.mp hq with hq | hq
  · exact ⟨mcl_6_ok q hq, mcl_6_nm q hq⟩
  rcases List.mem_append.mp hq with hq | hq
  · exact ⟨mcl_7_ok q hq, mcl_7_nm q hq⟩
  rcases List.mem_append.mp hq with hq | hq
  · exact ⟨mcl_8_ok q hq, mcl_8_nm q hq⟩
  rcases List.mem_append.mp hq with hq | hq
  · exact ⟨mcl_9_ok q hq, mcl_9_nm q hq⟩
  rcases List.mem_append.mp hq with hq | hq
  · exact ⟨mcl_10_ok q hq, mcl_10_nm q hq⟩
  rcases List.mem_append.mp hq with hq | hq
  · exact ⟨mcl_11_ok q hq, mcl_11_nm q hq⟩
  rcases List.mem_append.mp hq with hq | hq
  · exact ⟨mcl_12_ok q hq, mcl_12_nm q hq⟩
  rcases List.mem_append.mp hq with hq | hq
  · exact ⟨mcl_13_ok q hq, mcl_13_nm q hq⟩
  rcases List.mem_append.mp hq with hq | hq
  · exact ⟨mcl_14_ok q hq, mcl_14_nm q hq⟩
  rcases List.mem_append.mp hq with hq | hq
  · exact ⟨mcl_15_ok q hq, mcl_15_nm q hq⟩
  rcases List.mem_append.mp hq with hq | hq
  · exact ⟨mcl_16_ok q hq, mcl_16_nm q hq⟩
  exact ⟨mcl_17_ok q hq, mcl_17_nm q hq⟩
def mstrs : List (String × Nat × String) := [("MuleTrain", 12, "train 20 10 3; mule jen 100; mule moll 60; sack grain 30 40; sack cloth 20 60; sack iron 50 30; sack glass 10 90; sack grain 25 20; road 40; ford 5; camp 8; pack 0 jen left; pack 3 jen right; pack 1 moll left"), ("MuleTrain$Parser", 120, "train"), ("MuleTrain$Parser", 58, "mule"), ("MuleTrain$Parser", 67, "sack"), ("MuleTrain$Parser", 203, "grain"), ("MuleTrain$Parser", 205, "cloth"), ("MuleTrain$Parser", 207, "iron"), ("MuleTrain$Parser", 209, "glass"), ("MuleTrain$Parser", 72, "road"), ("MuleTrain$Parser", 77, "ford"), ("MuleTrain$Parser", 79, "camp"), ("MuleTrain$Parser", 81, "pack"), ("MuleTrain$Parser", 211, "left"), ("MuleTrain$Parser", 213, "right"), ("MuleTrain$Parser", 86, "rest"), ("MuleTrain$Parser", 91, "trip"), ("java/lang/StringIndexOutOfBoundsException", 13, "String index out of range: "), ("java/util/Arrays", 337, " > "), ("java/util/Arrays", 48, "fromIndex("), ("java/util/Arrays", 57, ") > toIndex("), ("java/util/Arrays", 59, ")"), ("java/lang/ArrayIndexOutOfBoundsException", 13, "Array index out of range: "), ("MuleTrain", 368, "road"), ("MuleTrain", 370, "ford"), ("MuleTrain", 372, "camp"), ("MuleTrain", 84, "the input buffer is full"), ("MuleTrain", 93, "the length is out of range"), ("MuleTrain", 99, "the text has an error"), ("MuleTrain", 138, "there is no such value"), ("MuleTrain", 362, "there is no such setting"), ("MuleTrain", 146, "there is no such count"), ("MuleTrain", 355, "there is no such mule"), ("MuleTrain", 154, "mules have no such number"), ("MuleTrain", 358, "there is no such sack"), ("MuleTrain", 188, "sacks have no such number"), ("MuleTrain", 360, "there is no such stage"), ("MuleTrain", 193, "stages have no such number"), ("MuleTrain", 207, "the depth is out of range"), ("MuleTrain", 239, "there is no such side"), ("MuleTrain", 241, "the sack cannot be packed on this mule"), ("MuleTrain", 366, "the sack is on no mule"), ("MuleTrain", 272, "the trip cannot begin"), ("MuleTrain", 274, "the days are out of range"), ("MuleTrain", 276, "there are not so many days"), ("MuleTrain", 284, "there can be no such sack"), ("MuleTrain", 289, "there are too many sacks"), ("MuleTrain", 298, "there can be no such stage"), ("MuleTrain", 300, "there are too many stages"), ("MuleTrain", 311, "the value is out of range"), ("MuleTrain", 364, "there is no such slot"), ("MuleTrain", 316, "nothing is saved in this slot"), ("MuleTrain", 318, "no change can be undone"), ("MuleTrain", 346, "the output has no such byte")]
def mexn (x : Nat) : String := (bif Nat.blt x 2 then (bif Nat.blt x 1 then (bif Nat.beq x 0 then "java/lang/IllegalStateException" else "") else (bif Nat.beq x 1 then "java/lang/IllegalArgumentException" else "")) else (bif Nat.blt x 3 then (bif Nat.beq x 2 then "java/lang/IndexOutOfBoundsException" else "") else (bif Nat.beq x 3 then "java/util/NoSuchElementException" else "")))
def mws (k : Nat) : List Cond := mcw k :: wA
def mrm (d mc ms : Nat) : Room := { frames := d + 30, cells := mc, slots := ms, locals := 60 * d + 300 }
/-- what a throw and a text need -/
def mEx (adR : Nat → Nat) (A : Nat → Prop) (U : State) : Prop := vx_Zq Bundle.tN "UNASSIGNED_STACK" Bundle.steD A U U.heap ∧ vx_Zq Bundle.tN "SUPPRESSED_SENTINEL" Bundle.listD A U U.heap ∧ (∀ (i : Nat) (q : String × Nat × String), mstrs[i]? = some q → vk_R q.1 q.2.1 q.2.2 (adR (2 * i)) U) ∧ ∀ w ∈ wH, w.before #[] U = true
def mPre (dC : Nat → ClassId) (dI : Nat → Nat → Nat) (dA : Nat → ClassId) (adR ad : Nat → Nat) (RO W9 : List mE) (sz : Nat) (U : State) : Prop :=
  U.heap.size = sz ∧ va_P (dC, dI) vwCl (cw dA (mz adR ad) ad W9) U.heap ∧ va_K (dC, dI) vwCl (tyL dA) U ∧ va_D (fun _ => True) (cw dA (mz adR ad) ad W9) ∧ W9.length ≤ 1000000 ∧ wW W9.length W9 ∧ (∀ ad : Nat → Nat, va_P (dC, dI) vwCl (cwR dA (mz adR ad) adR RO) U.heap) ∧ (∀ j, j < RO.length → adR j < sz ∧ ∀ i, i < W9.length → ad i ≠ adR j) ∧ mEx adR (va_A (cw dA (mz adR ad) ad W9) sz) U
def mFin (dC : Nat → ClassId) (dI : Nat → Nat → Nat) (dA : Nat → ClassId) (adR ad : Nat → Nat) (n9 : Nat) (W' : List mE) (A : Nat → Prop) (ad' : Nat → Nat) (t : State) : Prop :=
  (∀ j, j < n9 → ad' j = ad j) ∧ va_P (dC, dI) vwCl (cw dA (mz adR ad') ad' W') t.heap ∧ va_D A (cw dA (mz adR ad') ad' W') ∧ W'.length ≤ 1000000 ∧ wW W'.length W' ∧ n9 ≤ W'.length
def mQr (dC : Nat → ClassId) (dI : Nat → Nat → Nat) (dA : Nat → ClassId) (adR ad : Nat → Nat) (n9 : Nat) (o : mO) (W' : List mE) (A : Nat → Prop) (oc : Outcome) (t : State) : Prop :=
  ∃ (v : Option Value) (ad' : Nat → Nat), o = .inl v ∧ oc = .returned (v.map (cz (mz adR ad'))) ∧ wv W'.length v.toList ∧ mFin dC dI dA adR ad n9 W' A ad' t
def mQx (dC : Nat → ClassId) (dI : Nat → Nat → Nat) (dA : Nat → ClassId) (adR ad : Nat → Nat) (n9 : Nat) (o : mO) (W' : List mE) (A : Nat → Prop) (E : String) (t : State) : Prop :=
  ∃ (x : Nat) (ad' : Nat → Nat), o = .inr x ∧ E = mexn x ∧ mFin dC dI dA adR ad n9 W' A ad' t
/-- the contract: from this world, with these arguments, that outcome and that world; so many cells and slots are new -/
def mCon (l : Launch) (RO : List mE) (k d : Nat) (as : List Value) (W9 : List mE) (o : mO) (W' : List mE) (mc ms : Nat) : Prop :=
  ∀ (dC : Nat → ClassId) (dI : Nat → Nat → Nat) (dA : Nat → ClassId) (adR ad : Nat → Nat) (sz : Nat), vx_Met l (mnm k) (mws k) (mrm d mc ms) (va_Pc (as.map (cz (mz adR ad))) (mPre dC dI dA adR ad RO W9 sz))
    (fun _ st oc t => mQr dC dI dA adR ad W9.length o W' (va_A (cw dA (mz adR ad) ad W9) sz) oc t ∧ va_F (va_A (cw dA (mz adR ad) ad W9) sz) st t)
    (fun E st t => mQx dC dI dA adR ad W9.length o W' (va_A (cw dA (mz adR ad) ad W9) sz) E t ∧ va_F (va_A (cw dA (mz adR ad) ad W9) sz) st t) mc ms (va_A (cw dA (mz adR ad) ad W9) sz)
/-- an exception is on its way -/
def mGoX (X : mX) (cells slots : Nat) (ad : Nat → Nat) (L r : List Value) (W9 : List mE) (pc : Nat) (x : Nat) : Prop := match X with
  | (p, l, e, R, s, m, args, below, meth, c, Q, A, dC, dI, dA, adR, RO, k) => ∀ (H : Heap) (locs : List Loc) (ls : Array Slot) (q9 : Addr) (ce : Cell), va_P (dC, dI) vwCl (cw dA (mz adR ad) ad W9) H → va_D A (cw dA (mz adR ad) ad W9) → va_S A s.heap H locs → W9.length ≤ 1000000 → wW W9.length W9 → wv W9.length L → wv W9.length r → lz (mz adR ad) ls (mml k) L →
    H[q9]? = some ce → ce.vm = .none → s.vm.findClass (mexn x) = some ce.cls → vx_W p l e R s m args below meth c H locs cells slots Q (F0 m pc ls (r.map (cz (mz adR ad)))) q9
def mL (X : mX) : Launch := X.2.1
/-- what holds besides, all along -/
def mCy (X : mX) : Prop := match X with
  | (p, l, e, R, s, m, args, below, meth, c, Q, A, dC, dI, dA, adR, RO, k) => mEx adR A s ∧ l.stackTraces = false ∧ c.exceptionTable.toList = tableOf (mhh k)
theorem mPre_blind {dC : Nat → ClassId} {dI : Nat → Nat → Nat} {dA : Nat → ClassId} {adR ad : Nat → Nat} {RO W9 : List mE} {sz : Nat} {as : List Value} : FrameBlind (va_Pc as (mPre dC dI dA adR ad RO W9 sz)) := by
  intro a U g mk h
  obtain ⟨h0, h1, h2, h3, h4, h5, h6, h7, h8, h9a, h9b, h9c, h9d⟩ := h
  exact ⟨h0, h1, h2, va_K.moved (u := U) (U := U.calling g mk a) (Vm.Alike.refl U.vm) h3, h4, h5, h6, h7, h8, vx_Zq.moved (u := U) (U := U.calling g mk a) (Vm.Alike.refl U.vm) h9a, vx_Zq.moved (u := U) (U := U.calling g mk a) (Vm.Alike.refl U.vm) h9b, fun i q hq => vk_R.same (u := U) (U := U.calling g mk a) rfl (h9c i q hq), fun w hw => nest_moved (u := U) (U := U.calling g mk a) rfl (List.mem_filter.mp hw).2 (h9d w hw)⟩
theorem m_fc {A : Nat → Prop} {dA : Nat → ClassId} {z ad : Nat → Nat} {W9 : List mE} {s : State} {H : Heap} {locs : List Loc} (hD : va_D A (cw dA z ad W9)) (hS : va_S A s.heap H locs) (hA : ∀ q, s.heap.size ≤ q → A q) : ∀ q, va_A (cw dA z ad W9) H.size q → A q := by
  intro q h
  rcases h with ⟨j, e9, h⟩ | h
  · exact hD.2 j (q, e9) h
  · exact hA q (Nat.le_trans hS.1 h)
theorem mEx_moved {adR : Nat → Nat} {A B : Nat → Prop} {s U : State} (hW : s.WarmedH U.vm) (hq : ∀ a : Nat, a < s.heap.size → ¬ A a → U.heap[a]? = s.heap[a]?) (hAB : ∀ q, B q → A q) (h : mEx adR A s) : mEx adR B U :=
  ⟨(vx_Zq.moved hW.alike (h.1.kept hq)).narrow hAB, (vx_Zq.moved hW.alike (h.2.1.kept hq)).narrow hAB, fun i q hi => (h.2.2.1 i q hi).warm hW, fun w hw => nest_warm hW (List.mem_filter.mp hw).2 (h.2.2.2 w hw)⟩
/-- what the caller hands over -/
theorem m_pre {X : mX} (hX : mCx X) (hY : mCy X) {ad : Nat → Nat} {as : List Value} {W9 : List mE} : match X with
    | (p, l, e, R, s, m, args, below, meth, c, Q, A, dC, dI, dA, adR, RO, k) => ∀ (H : Heap) (locs : List Loc), va_P (dC, dI) vwCl (cw dA (mz adR ad) ad W9) H → va_D A (cw dA (mz adR ad) ad W9) → va_S A s.heap H locs → W9.length ≤ 1000000 → wW W9.length W9 →
      PreS s H (va_Pc (as.map (cz (mz adR ad))) (mPre dC dI dA adR ad RO W9 H.size)) (as.map (cz (mz adR ad))) := by
  obtain ⟨p, l, e, R, s, m, args, below, meth, c, Q, A, dC, dI, dA, adR, RO, k⟩ := X
  obtain ⟨hx, hb, hml, hown, ⟨hwA, hwN⟩, hA, hK, hRO, hROA, hlk, hrt, hfr, hlo, hini⟩ := hX
  intro H locs hP hD hS hn hw
  refine ⟨mPre_blind, fun U hU hW => ⟨rfl, by rw [hU], by rw [hU]; exact hP, va_K.moved hW.alike hK, hD.weaken (fun _ _ _ _ => trivial), hn, hw, fun ad9 => ?_, fun j hj => ⟨Nat.lt_of_lt_of_le (hROA j hj).1 hS.1, fun i hi he => ?_⟩, mEx_moved hW (by rw [hU]; exact hS.2.1) (m_fc hD hS hA) hY.1⟩⟩
  · rw [hU]
    refine (hRO ad9).kept (fun j y hj => ?_)
    rw [cwR, List.getElem?_mapIdx] at hj
    cases hr : RO[j]? with
    | none => rw [hr] at hj; cases hj
    | some e2 =>
      rw [hr] at hj
      cases hj
      have h9 := hROA j (List.getElem?_eq_some_iff.mp hr).1
      exact hS.2.1 _ h9.1 h9.2
  · refine (hROA j hj).2 ?_
    rw [← he]
    obtain ⟨e9, h9⟩ : ∃ e9, W9[i]? = some e9 := ⟨_, List.getElem?_eq_getElem hi⟩
    exact hD.2 i (ad i, czE dA (mz adR ad) e9) (by rw [cw_at, h9]; rfl)
/-- behind the call -/
theorem m_run {X : mX} (hX : mCx X) {cells slots mc ms pc : Nat} {ad : Nat → Nat} {L r : List Value} {st0 : List Value} {W9 W' : List mE} {o : mO} (hr9 : wv W9.length r)
    (kk : ∀ v, o = .inl v → W9.length ≤ W'.length → ∀ ad' : Nat → Nat, (∀ j, j < W9.length → ad' j = ad j) → mGo X (cells + mc) (slots + ms) ad' L (v.toList ++ r) W' (pc + 3))
    (kx : ∀ x, o = .inr x → W9.length ≤ W'.length → ∀ ad' : Nat → Nat, (∀ j, j < W9.length → ad' j = ad j) → mGoX X (cells + mc) (slots + ms) ad' L r W' pc x) : match X with
    | (p, l, e, R, s, m, args, below, meth, c, Q, A, dC, dI, dA, adR, RO, k) => ∀ (H : Heap) (locs : List Loc) (ls : Array Slot) (a : Array Value), va_P (dC, dI) vwCl (cw dA (mz adR ad) ad W9) H → va_D A (cw dA (mz adR ad) ad W9) → va_S A s.heap H locs → W9.length ≤ 1000000 → wW W9.length W9 → wv W9.length L → lz (mz adR ad) ls (mml k) L →
      vx_Run p l e R s m args below meth c H locs cells slots mc ms (F0 m pc ls st0) (r.map (cz (mz adR ad))) (fun st oc t => mQr dC dI dA adR ad W9.length o W' (va_A (cw dA (mz adR ad) ad W9) H.size) oc t ∧ va_F (va_A (cw dA (mz adR ad) ad W9) H.size) st t) (fun E st t => mQx dC dI dA adR ad W9.length o W' (va_A (cw dA (mz adR ad) ad W9) H.size) E t ∧ va_F (va_A (cw dA (mz adR ad) ad W9) H.size) st t) (va_A (cw dA (mz adR ad) ad W9) H.size) →
      W p l e R s m args below meth c H locs cells slots Q (F0 m pc ls st0) := by
  obtain ⟨p, l, e, R, s, m, args, below, meth, c, Q, A, dC, dI, dA, adR, RO, k⟩ := X
  obtain ⟨hx, hb, hml, hown, ⟨hwA, hwN⟩, hA, hK, hRO, hROA, hlk, hrt, hfr, hlo, hini⟩ := hX
  intro H locs ls a hP hD hS hn hw hL hl hr T hT XX
  have hfc := m_fc hD hS hA
  rcases hr T hT XX with ⟨v, st₀, t, T', L9, h0, X', hL9, e1, e2, ⟨⟨v9, ad', ho, hv, hvw, hag, hP1, hD1, hn1, hw1, hle⟩, hF⟩, st⟩ | ⟨q, st₀, t, T', L9, E, ce, h0, X', hL9, e1, e2, ⟨⟨x, ad', ho, hE, hag, hP1, hD1, hn1, hw1, hle⟩, hF⟩, hce, hcv, hcl, st⟩
  · cases hv
    obtain ⟨k1, k2, k3⟩ := vx_keep h0 e1 hS (fun q _ h => hfc q h) hfc hL9 hF
    have k4 := kk v9 ho hle ad' hag T'.heap (locs ++ L9) ls (by rw [e1]; exact hP1) (hD1.weaken (fun _ y _ h => hfc y.1 h)) k3 hn1 hw1 (wv_mono hle hL) (fun y hy => by
      rcases List.mem_append.mp hy with h | h
      · exact hvw y h
      · exact wv_mono hle hr9 y h) (lz_eq hn hag hL hl)
    have e3 : (v9.toList ++ r).map (cz (mz adR ad')) = (v9.map (cz (mz adR ad'))).toList ++ r.map (cz (mz adR ad)) := by
      rw [List.map_append, czs_eq hn hag hr9]
      cases v9 <;> rfl
    rw [e3] at k4
    obtain ⟨t2, a1, b1⟩ := k4 T' rfl X'
    exact ⟨t2, st t2 a1, b1⟩
  · subst hE
    obtain ⟨k1, k2, k3⟩ := vx_keep h0 e1 hS (fun q _ h => hfc q h) hfc hL9 hF
    have k4 := kx x ho hle ad' hag T'.heap (locs ++ L9) ls q ce (by rw [e1]; exact hP1) (hD1.weaken (fun _ y _ h => hfc y.1 h)) k3 hn1 hw1 (wv_mono hle hL) (wv_mono hle hr9) (lz_eq hn hag hL hl) (by rw [e1]; exact hce) hcv hcl
    rw [czs_eq hn hag hr9] at k4
    obtain ⟨t2, a1, b1⟩ := k4 T' rfl X'
    exact ⟨t2, st.trans a1, b1⟩
