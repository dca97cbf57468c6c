/-! each row of the tables is sound (printed by wip/gen/emitS.py) -/
set_option maxRecDepth 100000 in
set_option maxHeartbeats 4000000 in
theorem ok_Q_digest (X : zX) (S : zS) (n0 : Nat) (hS : zSok S) : z_alls (zSnd X S n0 z_mts prog_14_method_98_code "RollPlayerModel" 6 false (some (.long))) tQ_digest :=
  ⟨s_aload_n (q := 0) (by decide +kernel) rfl,
  s_iload_n (q := 1) (by decide +kernel) rfl,
  s_callV (index := 154) (ins := .invokevirtual 154) (by decide +kernel) (List.forall_mem_cons.mpr ⟨ou_Q_154_11, fun _ h => absurd h List.not_mem_nil⟩),
  s_ifne (off := 11) (by decide +kernel) (by decide +kernel),
  s_aload_n (q := 0) (by decide +kernel) rfl,
  s_iconst (q := (-1)) (by decide +kernel) (by decide +kernel),
  s_callV (index := 180) (ins := .invokevirtual 180) (by decide +kernel) (List.forall_mem_cons.mpr ⟨ou_Q_180_11, fun _ h => absurd h List.not_mem_nil⟩),
  s_pop (by decide +kernel),
  s_lconst (q := 0) (by decide +kernel) (by decide +kernel),
  s_lreturn (by decide +kernel) rfl,
  s_bipush (q := 7) (by decide +kernel) (by decide +kernel),
  s_istore_n (q := 2) (by decide +kernel) rfl (by decide),
  s_iconst (q := 0) (by decide +kernel) (by decide +kernel),
  s_istore_n (q := 3) (by decide +kernel) rfl (by decide),
  s_iload_n (q := 3) (by decide +kernel) rfl,
  s_aload_n (q := 0) (by decide +kernel) rfl,
  s_GR (index := 7) (by decide +kernel) fl_Q_7 fg_Q_7,
  s_iload_n (q := 1) (by decide +kernel) rfl,
  s_iaload (by decide +kernel),
  s_icmpge (off := 86) (by decide +kernel) (by decide +kernel),
  s_aload_n (q := 0) (by decide +kernel) rfl,
  s_iload_n (q := 1) (by decide +kernel) rfl,
  s_iload_n (q := 3) (by decide +kernel) rfl,
  s_callV (index := 203) (ins := .invokevirtual 203) (by decide +kernel) (List.forall_mem_cons.mpr ⟨ou_Q_203_11, fun _ h => absurd h List.not_mem_nil⟩),
  s_istore (by decide +kernel) (by decide),
  s_iload_n (q := 2) (by decide +kernel) rfl,
  s_bipush (q := 31) (by decide +kernel) (by decide +kernel),
  s_imul (by decide +kernel),
  s_aload_n (q := 0) (by decide +kernel) rfl,
  s_GR (index := 16) (by decide +kernel) fl_Q_16 fg_Q_16,
  s_iload (by decide +kernel),
  s_iaload (by decide +kernel),
  s_iadd (by decide +kernel),
  s_bipush (q := 31) (by decide +kernel) (by decide +kernel),
  s_imul (by decide +kernel),
  s_aload_n (q := 0) (by decide +kernel) rfl,
  s_GR (index := 19) (by decide +kernel) fl_Q_19 fg_Q_19,
  s_iload (by decide +kernel),
  s_iaload (by decide +kernel),
  s_iadd (by decide +kernel),
  s_bipush (q := 31) (by decide +kernel) (by decide +kernel),
  s_imul (by decide +kernel),
  s_aload_n (q := 0) (by decide +kernel) rfl,
  s_GR (index := 22) (by decide +kernel) fl_Q_22 fg_Q_22,
  s_iload (by decide +kernel),
  s_iaload (by decide +kernel),
  s_iadd (by decide +kernel),
  s_istore_n (q := 2) (by decide +kernel) rfl (by decide),
  s_iconst (q := 0) (by decide +kernel) (by decide +kernel),
  s_istore (by decide +kernel) (by decide),
  s_iload (by decide +kernel),
  s_aload_n (q := 0) (by decide +kernel) rfl,
  s_iload (by decide +kernel),
  s_callV (index := 218) (ins := .invokevirtual 218) (by decide +kernel) (List.forall_mem_cons.mpr ⟨ou_Q_218_11, fun _ h => absurd h List.not_mem_nil⟩),
  s_icmpge (off := 23) (by decide +kernel) (by decide +kernel),
  s_iload_n (q := 2) (by decide +kernel) rfl,
  s_bipush (q := 31) (by decide +kernel) (by decide +kernel),
  s_imul (by decide +kernel),
  s_aload_n (q := 0) (by decide +kernel) rfl,
  s_iload (by decide +kernel),
  s_iload (by decide +kernel),
  s_callV (index := 163) (ins := .invokevirtual 163) (by decide +kernel) (List.forall_mem_cons.mpr ⟨ou_Q_163_11, fun _ h => absurd h List.not_mem_nil⟩),
  s_iadd (by decide +kernel),
  s_istore_n (q := 2) (by decide +kernel) rfl (by decide),
  s_iinc (q := 1) (by decide +kernel) (by decide +kernel) (by decide),
  s_goto (off := (-28)) (by decide +kernel) (by decide +kernel),
  s_iinc (q := 1) (by decide +kernel) (by decide +kernel) (by decide),
  s_goto (off := (-90)) (by decide +kernel) (by decide +kernel),
  s_aload_n (q := 0) (by decide +kernel) rfl,
  s_iload_n (q := 2) (by decide +kernel) rfl,
  s_callV (index := 183) (ins := .invokevirtual 183) (by decide +kernel) (List.forall_mem_cons.mpr ⟨ou_Q_183_11, fun _ h => absurd h List.not_mem_nil⟩),
  s_i2l (by decide +kernel),
  s_lreturn (by decide +kernel) rfl,
  trivial⟩
set_option maxRecDepth 100000 in
theorem mo_Q_digest : z_alls (fun _ a => zMon a) tQ_digest := ⟨m_aLR _ _, m_aLI _ _, m_aCallV _ _ _ _ _, m_aIf _ _ _, m_aLR _ _, m_aCI _ _, m_aCallV _ _ _ _ _, m_aPop _, m_aCJ _ _, m_aRJ, m_aCI _ _, m_aSI _ _, m_aCI _ _, m_aSI _ _, m_aLI _ _, m_aLR _ _, m_aGR _ _ _, m_aLI _ _, m_aXI _ _, m_aCmp _ _ _, m_aLR _ _, m_aLI _ _, m_aLI _ _, m_aCallV _ _ _ _ _, m_aSI _ _, m_aLI _ _, m_aCI _ _, m_aB _ _, m_aLR _ _, m_aGR _ _ _, m_aLI _ _, m_aXI _ _, m_aB _ _, m_aCI _ _, m_aB _ _, m_aLR _ _, m_aGR _ _ _, m_aLI _ _, m_aXI _ _, m_aB _ _, m_aCI _ _, m_aB _ _, m_aLR _ _, m_aGR _ _ _, m_aLI _ _, m_aXI _ _, m_aB _ _, m_aSI _ _, m_aCI _ _, m_aSI _ _, m_aLI _ _, m_aLR _ _, m_aLI _ _, m_aCallV _ _ _ _ _, m_aCmp _ _ _, m_aLI _ _, m_aCI _ _, m_aB _ _, m_aLR _ _, m_aLI _ _, m_aLI _ _, m_aCallV _ _ _ _ _, m_aB _ _, m_aSI _ _, m_aInc _ _ _, m_aGo _, m_aInc _ _ _, m_aGo _, m_aLR _ _, m_aLI _ _, m_aCallV _ _ _ _ _, m_aI2J _, m_aRJ, trivial⟩
set_option maxRecDepth 100000 in
set_option maxHeartbeats 4000000 in
theorem ok_Q_count (X : zX) (S : zS) (n0 : Nat) (hS : zSok S) : z_alls (zSnd X S n0 z_mts prog_14_method_99_code "RollPlayerModel" 2 false (some (.int))) tQ_count :=
  ⟨s_iload_n (q := 1) (by decide +kernel) rfl,
  s_switch (dflt := 119) (lo := 0) (hi := 7) (offs := #[47, 56, 65, 74, 83, 92, 101, 110]) (len := 47) (by decide +kernel) (by decide +kernel) (by decide +kernel),
  s_aload_n (q := 0) (by decide +kernel) rfl,
  s_aload_n (q := 0) (by decide +kernel) rfl,
  s_GI (index := 147) (by decide +kernel) fl_Q_147 fg_Q_147,
  s_callV (index := 183) (ins := .invokevirtual 183) (by decide +kernel) (List.forall_mem_cons.mpr ⟨ou_Q_183_11, fun _ h => absurd h List.not_mem_nil⟩),
  s_ireturn (by decide +kernel) rfl,
  s_aload_n (q := 0) (by decide +kernel) rfl,
  s_aload_n (q := 0) (by decide +kernel) rfl,
  s_GI (index := 224) (by decide +kernel) fl_Q_224 fg_Q_224,
  s_callV (index := 183) (ins := .invokevirtual 183) (by decide +kernel) (List.forall_mem_cons.mpr ⟨ou_Q_183_11, fun _ h => absurd h List.not_mem_nil⟩),
  s_ireturn (by decide +kernel) rfl,
  s_aload_n (q := 0) (by decide +kernel) rfl,
  s_aload_n (q := 0) (by decide +kernel) rfl,
  s_GI (index := 237) (by decide +kernel) fl_Q_237 fg_Q_237,
  s_callV (index := 183) (ins := .invokevirtual 183) (by decide +kernel) (List.forall_mem_cons.mpr ⟨ou_Q_183_11, fun _ h => absurd h List.not_mem_nil⟩),
  s_ireturn (by decide +kernel) rfl,
  s_aload_n (q := 0) (by decide +kernel) rfl,
  s_aload_n (q := 0) (by decide +kernel) rfl,
  s_GI (index := 288) (by decide +kernel) fl_Q_288 fg_Q_288,
  s_callV (index := 183) (ins := .invokevirtual 183) (by decide +kernel) (List.forall_mem_cons.mpr ⟨ou_Q_183_11, fun _ h => absurd h List.not_mem_nil⟩),
  s_ireturn (by decide +kernel) rfl,
  s_aload_n (q := 0) (by decide +kernel) rfl,
  s_aload_n (q := 0) (by decide +kernel) rfl,
  s_GI (index := 298) (by decide +kernel) fl_Q_298 fg_Q_298,
  s_callV (index := 183) (ins := .invokevirtual 183) (by decide +kernel) (List.forall_mem_cons.mpr ⟨ou_Q_183_11, fun _ h => absurd h List.not_mem_nil⟩),
  s_ireturn (by decide +kernel) rfl,
  s_aload_n (q := 0) (by decide +kernel) rfl,
  s_aload_n (q := 0) (by decide +kernel) rfl,
  s_GI (index := 401) (by decide +kernel) fl_Q_401 fg_Q_401,
  s_callV (index := 183) (ins := .invokevirtual 183) (by decide +kernel) (List.forall_mem_cons.mpr ⟨ou_Q_183_11, fun _ h => absurd h List.not_mem_nil⟩),
  s_ireturn (by decide +kernel) rfl,
  s_aload_n (q := 0) (by decide +kernel) rfl,
  s_aload_n (q := 0) (by decide +kernel) rfl,
  s_GI (index := 189) (by decide +kernel) fl_Q_189 fg_Q_189,
  s_callV (index := 183) (ins := .invokevirtual 183) (by decide +kernel) (List.forall_mem_cons.mpr ⟨ou_Q_183_11, fun _ h => absurd h List.not_mem_nil⟩),
  s_ireturn (by decide +kernel) rfl,
  s_aload_n (q := 0) (by decide +kernel) rfl,
  s_aload_n (q := 0) (by decide +kernel) rfl,
  s_GI (index := 240) (by decide +kernel) fl_Q_240 fg_Q_240,
  s_callV (index := 183) (ins := .invokevirtual 183) (by decide +kernel) (List.forall_mem_cons.mpr ⟨ou_Q_183_11, fun _ h => absurd h List.not_mem_nil⟩),
  s_ireturn (by decide +kernel) rfl,
  s_aload_n (q := 0) (by decide +kernel) rfl,
  s_iconst (q := (-1)) (by decide +kernel) (by decide +kernel),
  s_callV (index := 180) (ins := .invokevirtual 180) (by decide +kernel) (List.forall_mem_cons.mpr ⟨ou_Q_180_11, fun _ h => absurd h List.not_mem_nil⟩),
  s_ireturn (by decide +kernel) rfl,
  trivial⟩
set_option maxRecDepth 100000 in
theorem mo_Q_count : z_alls (fun _ a => zMon a) tQ_count := ⟨m_aLI _ _, m_aSw _ _, m_aLR _ _, m_aLR _ _, m_aGI _ _ _, m_aCallV _ _ _ _ _, m_aRI, m_aLR _ _, m_aLR _ _, m_aGI _ _ _, m_aCallV _ _ _ _ _, m_aRI, m_aLR _ _, m_aLR _ _, m_aGI _ _ _, m_aCallV _ _ _ _ _, m_aRI, m_aLR _ _, m_aLR _ _, m_aGI _ _ _, m_aCallV _ _ _ _ _, m_aRI, m_aLR _ _, m_aLR _ _, m_aGI _ _ _, m_aCallV _ _ _ _ _, m_aRI, m_aLR _ _, m_aLR _ _, m_aGI _ _ _, m_aCallV _ _ _ _ _, m_aRI, m_aLR _ _, m_aLR _ _, m_aGI _ _ _, m_aCallV _ _ _ _ _, m_aRI, m_aLR _ _, m_aLR _ _, m_aGI _ _ _, m_aCallV _ _ _ _ _, m_aRI, m_aLR _ _, m_aCI _ _, m_aCallV _ _ _ _ _, m_aRI, trivial⟩
set_option maxRecDepth 100000 in
set_option maxHeartbeats 4000000 in
theorem ok_Q_strips (X : zX) (S : zS) (n0 : Nat) (hS : zSok S) : z_alls (zSnd X S n0 z_mts prog_14_method_100_code "RollPlayerModel" 2 false (some (.int))) tQ_strips :=
  ⟨s_aload_n (q := 0) (by decide +kernel) rfl,
  s_iload_n (q := 1) (by decide +kernel) rfl,
  s_callV (index := 154) (ins := .invokevirtual 154) (by decide +kernel) (List.forall_mem_cons.mpr ⟨ou_Q_154_11, fun _ h => absurd h List.not_mem_nil⟩),
  s_ifeq (off := 16) (by decide +kernel) (by decide +kernel),
  s_aload_n (q := 0) (by decide +kernel) rfl,
  s_aload_n (q := 0) (by decide +kernel) rfl,
  s_GR (index := 7) (by decide +kernel) fl_Q_7 fg_Q_7,
  s_iload_n (q := 1) (by decide +kernel) rfl,
  s_iaload (by decide +kernel),
  s_callV (index := 183) (ins := .invokevirtual 183) (by decide +kernel) (List.forall_mem_cons.mpr ⟨ou_Q_183_11, fun _ h => absurd h List.not_mem_nil⟩),
  s_goto (off := 8) (by decide +kernel) (by decide +kernel),
  s_aload_n (q := 0) (by decide +kernel) rfl,
  s_iconst (q := (-1)) (by decide +kernel) (by decide +kernel),
  s_callV (index := 180) (ins := .invokevirtual 180) (by decide +kernel) (List.forall_mem_cons.mpr ⟨ou_Q_180_11, fun _ h => absurd h List.not_mem_nil⟩),
  s_ireturn (by decide +kernel) rfl,
  trivial⟩
set_option maxRecDepth 100000 in
theorem mo_Q_strips : z_alls (fun _ a => zMon a) tQ_strips := ⟨m_aLR _ _, m_aLI _ _, m_aCallV _ _ _ _ _, m_aIf _ _ _, m_aLR _ _, m_aLR _ _, m_aGR _ _ _, m_aLI _ _, m_aXI _ _, m_aCallV _ _ _ _ _, m_aGo _, m_aLR _ _, m_aCI _ _, m_aCallV _ _ _ _ _, m_aRI, trivial⟩
set_option maxRecDepth 100000 in
set_option maxHeartbeats 4000000 in
theorem ok_Q_members (X : zX) (S : zS) (n0 : Nat) (hS : zSok S) : z_alls (zSnd X S n0 z_mts prog_14_method_101_code "RollPlayerModel" 2 false (some (.int))) tQ_members :=
  ⟨s_aload_n (q := 0) (by decide +kernel) rfl,
  s_iload_n (q := 1) (by decide +kernel) rfl,
  s_callV (index := 227) (ins := .invokevirtual 227) (by decide +kernel) (List.forall_mem_cons.mpr ⟨ou_Q_227_11, fun _ h => absurd h List.not_mem_nil⟩),
  s_ifne (off := 11) (by decide +kernel) (by decide +kernel),
  s_aload_n (q := 0) (by decide +kernel) rfl,
  s_iconst (q := (-1)) (by decide +kernel) (by decide +kernel),
  s_callV (index := 180) (ins := .invokevirtual 180) (by decide +kernel) (List.forall_mem_cons.mpr ⟨ou_Q_180_11, fun _ h => absurd h List.not_mem_nil⟩),
  s_goto (off := 32) (by decide +kernel) (by decide +kernel),
  s_aload_n (q := 0) (by decide +kernel) rfl,
  s_GR (index := 42) (by decide +kernel) fl_Q_42 fg_Q_42,
  s_iload_n (q := 1) (by decide +kernel) rfl,
  s_iaload (by decide +kernel),
  s_bipush (q := 6) (by decide +kernel) (by decide +kernel),
  s_icmpeq (off := 11) (by decide +kernel) (by decide +kernel),
  s_aload_n (q := 0) (by decide +kernel) rfl,
  s_iconst (q := 5) (by decide +kernel) (by decide +kernel),
  s_callV (index := 192) (ins := .invokevirtual 192) (by decide +kernel) (List.forall_mem_cons.mpr ⟨ou_Q_192_11, fun _ h => absurd h List.not_mem_nil⟩),
  s_goto (off := 13) (by decide +kernel) (by decide +kernel),
  s_aload_n (q := 0) (by decide +kernel) rfl,
  s_aload_n (q := 0) (by decide +kernel) rfl,
  s_GR (index := 45) (by decide +kernel) fl_Q_45 fg_Q_45,
  s_iload_n (q := 1) (by decide +kernel) rfl,
  s_iaload (by decide +kernel),
  s_callV (index := 183) (ins := .invokevirtual 183) (by decide +kernel) (List.forall_mem_cons.mpr ⟨ou_Q_183_11, fun _ h => absurd h List.not_mem_nil⟩),
  s_ireturn (by decide +kernel) rfl,
  trivial⟩
set_option maxRecDepth 100000 in
theorem mo_Q_members : z_alls (fun _ a => zMon a) tQ_members := ⟨m_aLR _ _, m_aLI _ _, m_aCallV _ _ _ _ _, m_aIf _ _ _, m_aLR _ _, m_aCI _ _, m_aCallV _ _ _ _ _, m_aGo _, m_aLR _ _, m_aGR _ _ _, m_aLI _ _, m_aXI _ _, m_aCI _ _, m_aCmp _ _ _, m_aLR _ _, m_aCI _ _, m_aCallV _ _ _ _ _, m_aGo _, m_aLR _ _, m_aLR _ _, m_aGR _ _ _, m_aLI _ _, m_aXI _ _, m_aCallV _ _ _ _ _, m_aRI, trivial⟩
set_option maxRecDepth 100000 in
set_option maxHeartbeats 4000000 in
theorem ok_Q_trace (X : zX) (S : zS) (n0 : Nat) (hS : zSok S) : z_alls (zSnd X S n0 z_mts prog_14_method_102_code "RollPlayerModel" 2 false (some (.int))) tQ_trace :=
  ⟨s_iload_n (q := 1) (by decide +kernel) rfl,
  s_iconst (q := 0) (by decide +kernel) (by decide +kernel),
  s_bipush (q := 16) (by decide +kernel) (by decide +kernel),
  s_callS (index := 150) (by decide +kernel) mt_Q_within (cw_Q_within _) (z_tb 1190 (by decide +kernel)) (z_tb 1191 (by decide +kernel)),
  s_ifeq (off := 16) (by decide +kernel) (by decide +kernel),
  s_aload_n (q := 0) (by decide +kernel) rfl,
  s_aload_n (q := 0) (by decide +kernel) rfl,
  s_GR (index := 82) (by decide +kernel) fl_Q_82 fg_Q_82,
  s_iload_n (q := 1) (by decide +kernel) rfl,
  s_iaload (by decide +kernel),
  s_callV (index := 183) (ins := .invokevirtual 183) (by decide +kernel) (List.forall_mem_cons.mpr ⟨ou_Q_183_11, fun _ h => absurd h List.not_mem_nil⟩),
  s_goto (off := 8) (by decide +kernel) (by decide +kernel),
  s_aload_n (q := 0) (by decide +kernel) rfl,
  s_iconst (q := (-1)) (by decide +kernel) (by decide +kernel),
  s_callV (index := 180) (ins := .invokevirtual 180) (by decide +kernel) (List.forall_mem_cons.mpr ⟨ou_Q_180_11, fun _ h => absurd h List.not_mem_nil⟩),
  s_ireturn (by decide +kernel) rfl,
  trivial⟩
set_option maxRecDepth 100000 in
theorem mo_Q_trace : z_alls (fun _ a => zMon a) tQ_trace := ⟨m_aLI _ _, m_aCI _ _, m_aCI _ _, m_aCall _ _ _ _, m_aIf _ _ _, m_aLR _ _, m_aLR _ _, m_aGR _ _ _, m_aLI _ _, m_aXI _ _, m_aCallV _ _ _ _ _, m_aGo _, m_aLR _ _, m_aCI _ _, m_aCallV _ _ _ _ _, m_aRI, trivial⟩
set_option maxRecDepth 100000 in
set_option maxHeartbeats 4000000 in
theorem ok_Q_status (X : zX) (S : zS) (n0 : Nat) (hS : zSok S) : z_alls (zSnd X S n0 z_mts prog_14_method_103_code "RollPlayerModel" 1 false (some (.int))) tQ_status :=
  ⟨s_aload_n (q := 0) (by decide +kernel) rfl,
  s_GI (index := 144) (by decide +kernel) fl_Q_144 fg_Q_144,
  s_ireturn (by decide +kernel) rfl,
  trivial⟩
set_option maxRecDepth 100000 in
theorem mo_Q_status : z_alls (fun _ a => zMon a) tQ_status := ⟨m_aLR _ _, m_aGI _ _ _, m_aRI, trivial⟩
set_option maxRecDepth 100000 in
set_option maxHeartbeats 4000000 in
theorem ok_S_init (X : zX) (S : zS) (n0 : Nat) (hS : zSok S) : z_alls (zSnd X S n0 z_mts prog_12_method_1_code "RollPlayer$Strip" 6 true (none)) tS_init :=
  ⟨s_aload_n (q := 0) (by decide +kernel) rfl,
  s_objinit (index := 3) (by decide +kernel) (z_tb 176 (by decide +kernel)) (z_tb 24 (by decide +kernel)) (z_tb 25 (by decide +kernel)),
  s_aload_n (q := 0) (by decide +kernel) rfl,
  s_iconst (q := 0) (by decide +kernel) (by decide +kernel),
  s_PZ (index := 9) (by decide +kernel) fl_S_9 fp_S_9_true,
  s_iconst (q := 0) (by decide +kernel) (by decide +kernel),
  s_iload (by decide +kernel),
  s_sipush (q := 256) (by decide +kernel) (by decide +kernel),
  s_callS (index := 15) (by decide +kernel) mt_Jm_min (cw_Jm_min _) (z_tb 177 (by decide +kernel)) (z_tb 178 (by decide +kernel)),
  s_callS (index := 21) (by decide +kernel) mt_Jm_max (cw_Jm_max _) (z_tb 180 (by decide +kernel)) (z_tb 181 (by decide +kernel)),
  s_istore (by decide +kernel) (by decide),
  s_aload_n (q := 0) (by decide +kernel) rfl,
  s_iload_n (q := 1) (by decide +kernel) rfl,
  s_PI (index := 24) (by decide +kernel) fl_S_24 fp_S_24_true,
  s_aload_n (q := 0) (by decide +kernel) rfl,
  s_iload_n (q := 2) (by decide +kernel) rfl,
  s_PI (index := 28) (by decide +kernel) fl_S_28 fp_S_28_true,
  s_aload_n (q := 0) (by decide +kernel) rfl,
  s_iload_n (q := 3) (by decide +kernel) rfl,
  s_PI (index := 31) (by decide +kernel) fl_S_31 fp_S_31_true,
  s_aload_n (q := 0) (by decide +kernel) rfl,
  s_iload_n (q := 1) (by decide +kernel) rfl,
  s_ifne (off := 7) (by decide +kernel) (by decide +kernel),
  s_iconst (q := 0) (by decide +kernel) (by decide +kernel),
  s_goto (off := 13) (by decide +kernel) (by decide +kernel),
  s_iload_n (q := 1) (by decide +kernel) rfl,
  s_iconst (q := 3) (by decide +kernel) (by decide +kernel),
  s_icmpne (off := 7) (by decide +kernel) (by decide +kernel),
  s_iconst (q := 2) (by decide +kernel) (by decide +kernel),
  s_goto (off := 4) (by decide +kernel) (by decide +kernel),
  s_iconst (q := 1) (by decide +kernel) (by decide +kernel),
  s_PI (index := 34) (by decide +kernel) fl_S_34 fp_S_34_true,
  s_aload_n (q := 0) (by decide +kernel) rfl,
  s_bipush (q := 9) (by decide +kernel) (by decide +kernel),
  s_iload (by decide +kernel),
  s_aload_n (q := 0) (by decide +kernel) rfl,
  s_GI (index := 34) (by decide +kernel) fl_S_34 fg_S_34,
  s_ishl (by decide +kernel),
  s_iadd (by decide +kernel),
  s_PI (index := 37) (by decide +kernel) fl_S_37 fp_S_37_true,
  s_aload_n (q := 0) (by decide +kernel) rfl,
  s_aload_n (q := 0) (by decide +kernel) rfl,
  s_GI (index := 37) (by decide +kernel) fl_S_37 fg_S_37,
  s_newarray (at1 := .byte) hS (by decide +kernel) (z_tb 213 (by decide +kernel)) rfl (by decide),
  s_PR (index := 40) (ty := (.array .byte)) (by decide +kernel) fl_S_40 (by decide +kernel) rfl fp_S_40_true,
  s_return (by decide +kernel) rfl,
  trivial⟩
set_option maxRecDepth 100000 in
theorem mo_S_init : z_alls (fun _ a => zMon a) tS_init := ⟨m_aLR _ _, m_aObj _, m_aLR _ _, m_aCI _ _, m_aPZ _ _ _, m_aCI _ _, m_aLI _ _, m_aCI _ _, m_aCall _ _ _ _, m_aCall _ _ _ _, m_aSI _ _, m_aLR _ _, m_aLI _ _, m_aPI _ _ _, m_aLR _ _, m_aLI _ _, m_aPI _ _ _, m_aLR _ _, m_aLI _ _, m_aPI _ _ _, m_aLR _ _, m_aLI _ _, m_aIf _ _ _, m_aCI _ _, m_aGo _, m_aLI _ _, m_aCI _ _, m_aCmp _ _ _, m_aCI _ _, m_aGo _, m_aCI _ _, m_aPI _ _ _, m_aLR _ _, m_aCI _ _, m_aLI _ _, m_aLR _ _, m_aGI _ _ _, m_aB _ _, m_aB _ _, m_aPI _ _ _, m_aLR _ _, m_aLR _ _, m_aGI _ _ _, m_aNewA _ _, m_aPR _ _ _, m_aRV, trivial⟩
set_option maxRecDepth 100000 in
set_option maxHeartbeats 4000000 in
theorem ok_S_elements (X : zX) (S : zS) (n0 : Nat) (hS : zSok S) : z_alls (zSnd X S n0 z_mts prog_12_method_2_code "RollPlayer$Strip" 1 false (some (.int))) tS_elements :=
  ⟨s_aload_n (q := 0) (by decide +kernel) rfl,
  s_GI (index := 37) (by decide +kernel) fl_S_37 fg_S_37,
  s_bipush (q := 9) (by decide +kernel) (by decide +kernel),
  s_icmple (off := 18) (by decide +kernel) (by decide +kernel),
  s_aload_n (q := 0) (by decide +kernel) rfl,
  s_GI (index := 37) (by decide +kernel) fl_S_37 fg_S_37,
  s_bipush (q := 9) (by decide +kernel) (by decide +kernel),
  s_isub (by decide +kernel),
  s_aload_n (q := 0) (by decide +kernel) rfl,
  s_GI (index := 34) (by decide +kernel) fl_S_34 fg_S_34,
  s_ishr (by decide +kernel),
  s_goto (off := 4) (by decide +kernel) (by decide +kernel),
  s_iconst (q := 0) (by decide +kernel) (by decide +kernel),
  s_ireturn (by decide +kernel) rfl,
  trivial⟩
set_option maxRecDepth 100000 in
theorem mo_S_elements : z_alls (fun _ a => zMon a) tS_elements := ⟨m_aLR _ _, m_aGI _ _ _, m_aCI _ _, m_aCmp _ _ _, m_aLR _ _, m_aGI _ _ _, m_aCI _ _, m_aB _ _, m_aLR _ _, m_aGI _ _ _, m_aB _ _, m_aGo _, m_aCI _ _, m_aRI, trivial⟩
set_option maxRecDepth 100000 in
set_option maxHeartbeats 4000000 in
theorem ok_S_numberAt (X : zX) (S : zS) (n0 : Nat) (hS : zSok S) : z_alls (zSnd X S n0 z_mts prog_12_method_3_code "RollPlayer$Strip" 5 false (some (.int))) tS_numberAt :=
  ⟨s_iconst (q := 0) (by decide +kernel) (by decide +kernel),
  s_istore_n (q := 3) (by decide +kernel) rfl (by decide),
  s_iload_n (q := 1) (by decide +kernel) rfl,
  s_istore (by decide +kernel) (by decide),
  s_iload (by decide +kernel),
  s_iload_n (q := 1) (by decide +kernel) rfl,
  s_iload_n (q := 2) (by decide +kernel) rfl,
  s_iadd (by decide +kernel),
  s_icmpge (off := 52) (by decide +kernel) (by decide +kernel),
  s_iload (by decide +kernel),
  s_aload_n (q := 0) (by decide +kernel) rfl,
  s_GR (index := 40) (by decide +kernel) fl_S_40 fg_S_40,
  s_alen (by decide +kernel) (by decide +kernel),
  s_icmpge (off := 42) (by decide +kernel) (by decide +kernel),
  s_iload (by decide +kernel),
  s_iload_n (q := 1) (by decide +kernel) rfl,
  s_icmpne (off := 13) (by decide +kernel) (by decide +kernel),
  s_aload_n (q := 0) (by decide +kernel) rfl,
  s_GR (index := 40) (by decide +kernel) fl_S_40 fg_S_40,
  s_iload (by decide +kernel),
  s_baloadB (by decide +kernel),
  s_goto (off := 19) (by decide +kernel) (by decide +kernel),
  s_iload_n (q := 3) (by decide +kernel) rfl,
  s_bipush (q := 8) (by decide +kernel) (by decide +kernel),
  s_ishl (by decide +kernel),
  s_aload_n (q := 0) (by decide +kernel) rfl,
  s_GR (index := 40) (by decide +kernel) fl_S_40 fg_S_40,
  s_iload (by decide +kernel),
  s_baloadB (by decide +kernel),
  s_sipush (q := 255) (by decide +kernel) (by decide +kernel),
  s_iand (by decide +kernel),
  s_ior (by decide +kernel),
  s_istore_n (q := 3) (by decide +kernel) rfl (by decide),
  s_iinc (q := 1) (by decide +kernel) (by decide +kernel) (by decide),
  s_goto (off := (-54)) (by decide +kernel) (by decide +kernel),
  s_iload_n (q := 3) (by decide +kernel) rfl,
  s_ireturn (by decide +kernel) rfl,
  trivial⟩
set_option maxRecDepth 100000 in
theorem mo_S_numberAt : z_alls (fun _ a => zMon a) tS_numberAt := ⟨m_aCI _ _, m_aSI _ _, m_aLI _ _, m_aSI _ _, m_aLI _ _, m_aLI _ _, m_aLI _ _, m_aB _ _, m_aCmp _ _ _, m_aLI _ _, m_aLR _ _, m_aGR _ _ _, m_aALen _ _, m_aCmp _ _ _, m_aLI _ _, m_aLI _ _, m_aCmp _ _ _, m_aLR _ _, m_aGR _ _ _, m_aLI _ _, m_aXI _ _, m_aGo _, m_aLI _ _, m_aCI _ _, m_aB _ _, m_aLR _ _, m_aGR _ _ _, m_aLI _ _, m_aXI _ _, m_aCI _ _, m_aB _ _, m_aB _ _, m_aSI _ _, m_aInc _ _ _, m_aGo _, m_aLI _ _, m_aRI, trivial⟩
set_option maxRecDepth 100000 in
set_option maxHeartbeats 4000000 in
theorem ok_S_writeNumber (X : zX) (S : zS) (n0 : Nat) (hS : zSok S) : z_alls (zSnd X S n0 z_mts prog_12_method_4_code "RollPlayer$Strip" 6 false (none)) tS_writeNumber :=
  ⟨s_iload_n (q := 3) (by decide +kernel) rfl,
  s_istore (by decide +kernel) (by decide),
  s_iload_n (q := 1) (by decide +kernel) rfl,
  s_iload_n (q := 2) (by decide +kernel) rfl,
  s_iadd (by decide +kernel),
  s_iconst (q := 1) (by decide +kernel) (by decide +kernel),
  s_isub (by decide +kernel),
  s_istore (by decide +kernel) (by decide),
  s_iload (by decide +kernel),
  s_iload_n (q := 1) (by decide +kernel) rfl,
  s_icmplt (off := 36) (by decide +kernel) (by decide +kernel),
  s_iload (by decide +kernel),
  s_aload_n (q := 0) (by decide +kernel) rfl,
  s_GR (index := 40) (by decide +kernel) fl_S_40 fg_S_40,
  s_alen (by decide +kernel) (by decide +kernel),
  s_icmpge (off := 26) (by decide +kernel) (by decide +kernel),
  s_aload_n (q := 0) (by decide +kernel) rfl,
  s_GR (index := 40) (by decide +kernel) fl_S_40 fg_S_40,
  s_iload (by decide +kernel),
  s_iload (by decide +kernel),
  s_i2b (by decide +kernel),
  s_bastoreB (by decide +kernel),
  s_iload (by decide +kernel),
  s_bipush (q := 8) (by decide +kernel) (by decide +kernel),
  s_ishr (by decide +kernel),
  s_istore (by decide +kernel) (by decide),
  s_iinc (q := (-1)) (by decide +kernel) (by decide +kernel) (by decide),
  s_goto (off := (-36)) (by decide +kernel) (by decide +kernel),
  s_return (by decide +kernel) rfl,
  trivial⟩
set_option maxRecDepth 100000 in
theorem mo_S_writeNumber : z_alls (fun _ a => zMon a) tS_writeNumber := ⟨m_aLI _ _, m_aSI _ _, m_aLI _ _, m_aLI _ _, m_aB _ _, m_aCI _ _, m_aB _ _, m_aSI _ _, m_aLI _ _, m_aLI _ _, m_aCmp _ _ _, m_aLI _ _, m_aLR _ _, m_aGR _ _ _, m_aALen _ _, m_aCmp _ _ _, m_aLR _ _, m_aGR _ _ _, m_aLI _ _, m_aLI _ _, m_aII _ _, m_aYB _, m_aLI _ _, m_aCI _ _, m_aB _ _, m_aSI _ _, m_aInc _ _ _, m_aGo _, m_aRV, trivial⟩
set_option maxRecDepth 100000 in
set_option maxHeartbeats 4000000 in
theorem ok_S_elementAt (X : zX) (S : zS) (n0 : Nat) (hS : zSok S) : z_alls (zSnd X S n0 z_mts prog_12_method_5_code "RollPlayer$Strip" 3 false (some (.int))) tS_elementAt :=
  ⟨s_aload_n (q := 0) (by decide +kernel) rfl,
  s_bipush (q := 9) (by decide +kernel) (by decide +kernel),
  s_iload_n (q := 1) (by decide +kernel) rfl,
  s_aload_n (q := 0) (by decide +kernel) rfl,
  s_GI (index := 34) (by decide +kernel) fl_S_34 fg_S_34,
  s_ishl (by decide +kernel),
  s_iadd (by decide +kernel),
  s_iconst (q := 1) (by decide +kernel) (by decide +kernel),
  s_aload_n (q := 0) (by decide +kernel) rfl,
  s_GI (index := 34) (by decide +kernel) fl_S_34 fg_S_34,
  s_ishl (by decide +kernel),
  s_callV (index := 44) (ins := .invokevirtual 44) (by decide +kernel) (List.forall_mem_cons.mpr ⟨ou_S_44_9, fun _ h => absurd h List.not_mem_nil⟩),
  s_istore_n (q := 2) (by decide +kernel) rfl (by decide),
  s_aload_n (q := 0) (by decide +kernel) rfl,
  s_GI (index := 24) (by decide +kernel) fl_S_24 fg_S_24,
  s_iconst (q := 2) (by decide +kernel) (by decide +kernel),
  s_icmpne (off := 10) (by decide +kernel) (by decide +kernel),
  s_iload_n (q := 2) (by decide +kernel) rfl,
  s_ldc (i := 47) (by decide +kernel) (z_tb 692 (by decide +kernel)),
  s_iand (by decide +kernel),
  s_goto (off := 4) (by decide +kernel) (by decide +kernel),
  s_iload_n (q := 2) (by decide +kernel) rfl,
  s_ireturn (by decide +kernel) rfl,
  trivial⟩
set_option maxRecDepth 100000 in
theorem mo_S_elementAt : z_alls (fun _ a => zMon a) tS_elementAt := ⟨m_aLR _ _, m_aCI _ _, m_aLI _ _, m_aLR _ _, m_aGI _ _ _, m_aB _ _, m_aB _ _, m_aCI _ _, m_aLR _ _, m_aGI _ _ _, m_aB _ _, m_aCallV _ _ _ _ _, m_aSI _ _, m_aLR _ _, m_aGI _ _ _, m_aCI _ _, m_aCmp _ _ _, m_aLI _ _, m_aCI _ _, m_aB _ _, m_aGo _, m_aLI _ _, m_aRI, trivial⟩
set_option maxRecDepth 100000 in
set_option maxHeartbeats 4000000 in
theorem ok_S_putElement (X : zX) (S : zS) (n0 : Nat) (hS : zSok S) : z_alls (zSnd X S n0 z_mts prog_12_method_6_code "RollPlayer$Strip" 3 false (none)) tS_putElement :=
  ⟨s_aload_n (q := 0) (by decide +kernel) rfl,
  s_bipush (q := 9) (by decide +kernel) (by decide +kernel),
  s_iload_n (q := 1) (by decide +kernel) rfl,
  s_aload_n (q := 0) (by decide +kernel) rfl,
  s_GI (index := 34) (by decide +kernel) fl_S_34 fg_S_34,
  s_ishl (by decide +kernel),
  s_iadd (by decide +kernel),
  s_iconst (q := 1) (by decide +kernel) (by decide +kernel),
  s_aload_n (q := 0) (by decide +kernel) rfl,
  s_GI (index := 34) (by decide +kernel) fl_S_34 fg_S_34,
  s_ishl (by decide +kernel),
  s_iload_n (q := 2) (by decide +kernel) rfl,
  s_callV (index := 48) (ins := .invokevirtual 48) (by decide +kernel) (List.forall_mem_cons.mpr ⟨ou_S_48_9, fun _ h => absurd h List.not_mem_nil⟩),
  s_return (by decide +kernel) rfl,
  trivial⟩
set_option maxRecDepth 100000 in
theorem mo_S_putElement : z_alls (fun _ a => zMon a) tS_putElement := ⟨m_aLR _ _, m_aCI _ _, m_aLI _ _, m_aLR _ _, m_aGI _ _ _, m_aB _ _, m_aB _ _, m_aCI _ _, m_aLR _ _, m_aGI _ _ _, m_aB _ _, m_aLI _ _, m_aCallV _ _ _ _ _, m_aRV, trivial⟩
set_option maxRecDepth 100000 in
set_option maxHeartbeats 4000000 in
theorem ok_S_sumNow (X : zX) (S : zS) (n0 : Nat) (hS : zSok S) : z_alls (zSnd X S n0 z_mts prog_12_method_7_code "RollPlayer$Strip" 3 false (some (.int))) tS_sumNow :=
  ⟨s_iconst (q := 1) (by decide +kernel) (by decide +kernel),
  s_istore_n (q := 1) (by decide +kernel) rfl (by decide),
  s_iconst (q := 0) (by decide +kernel) (by decide +kernel),
  s_istore_n (q := 2) (by decide +kernel) rfl (by decide),
  s_iload_n (q := 2) (by decide +kernel) rfl,
  s_aload_n (q := 0) (by decide +kernel) rfl,
  s_GI (index := 37) (by decide +kernel) fl_S_37 fg_S_37,
  s_icmpge (off := 32) (by decide +kernel) (by decide +kernel),
  s_iload_n (q := 2) (by decide +kernel) rfl,
  s_iconst (q := 5) (by decide +kernel) (by decide +kernel),
  s_icmplt (off := 9) (by decide +kernel) (by decide +kernel),
  s_iload_n (q := 2) (by decide +kernel) rfl,
  s_bipush (q := 9) (by decide +kernel) (by decide +kernel),
  s_icmplt (off := 15) (by decide +kernel) (by decide +kernel),
  s_iload_n (q := 1) (by decide +kernel) rfl,
  s_bipush (q := 31) (by decide +kernel) (by decide +kernel),
  s_imul (by decide +kernel),
  s_aload_n (q := 0) (by decide +kernel) rfl,
  s_GR (index := 40) (by decide +kernel) fl_S_40 fg_S_40,
  s_iload_n (q := 2) (by decide +kernel) rfl,
  s_baloadB (by decide +kernel),
  s_iadd (by decide +kernel),
  s_istore_n (q := 1) (by decide +kernel) rfl (by decide),
  s_iinc (q := 1) (by decide +kernel) (by decide +kernel) (by decide),
  s_goto (off := (-34)) (by decide +kernel) (by decide +kernel),
  s_iload_n (q := 1) (by decide +kernel) rfl,
  s_ireturn (by decide +kernel) rfl,
  trivial⟩
set_option maxRecDepth 100000 in
theorem mo_S_sumNow : z_alls (fun _ a => zMon a) tS_sumNow := ⟨m_aCI _ _, m_aSI _ _, m_aCI _ _, m_aSI _ _, m_aLI _ _, m_aLR _ _, m_aGI _ _ _, m_aCmp _ _ _, m_aLI _ _, m_aCI _ _, m_aCmp _ _ _, m_aLI _ _, m_aCI _ _, m_aCmp _ _ _, m_aLI _ _, m_aCI _ _, m_aB _ _, m_aLR _ _, m_aGR _ _ _, m_aLI _ _, m_aXI _ _, m_aB _ _, m_aSI _ _, m_aInc _ _ _, m_aGo _, m_aLI _ _, m_aRI, trivial⟩
set_option maxRecDepth 100000 in
set_option maxHeartbeats 4000000 in
theorem ok_S_writeHead (X : zX) (S : zS) (n0 : Nat) (hS : zSok S) : z_alls (zSnd X S n0 z_mts prog_12_method_8_code "RollPlayer$Strip" 1 false (none)) tS_writeHead :=
  ⟨s_aload_n (q := 0) (by decide +kernel) rfl,
  s_aload_n (q := 0) (by decide +kernel) rfl,
  s_GI (index := 37) (by decide +kernel) fl_S_37 fg_S_37,
  s_bipush (q := 9) (by decide +kernel) (by decide +kernel),
  s_callS (index := 21) (by decide +kernel) mt_Jm_max (cw_Jm_max _) (z_tb 180 (by decide +kernel)) (z_tb 181 (by decide +kernel)),
  s_PI (index := 37) (by decide +kernel) fl_S_37 fp_S_37_false,
  s_aload_n (q := 0) (by decide +kernel) rfl,
  s_iconst (q := 0) (by decide +kernel) (by decide +kernel),
  s_iconst (q := 1) (by decide +kernel) (by decide +kernel),
  s_aload_n (q := 0) (by decide +kernel) rfl,
  s_GI (index := 24) (by decide +kernel) fl_S_24 fg_S_24,
  s_callV (index := 48) (ins := .invokevirtual 48) (by decide +kernel) (List.forall_mem_cons.mpr ⟨ou_S_48_9, fun _ h => absurd h List.not_mem_nil⟩),
  s_aload_n (q := 0) (by decide +kernel) rfl,
  s_iconst (q := 1) (by decide +kernel) (by decide +kernel),
  s_iconst (q := 2) (by decide +kernel) (by decide +kernel),
  s_aload_n (q := 0) (by decide +kernel) rfl,
  s_GI (index := 28) (by decide +kernel) fl_S_28 fg_S_28,
  s_callV (index := 48) (ins := .invokevirtual 48) (by decide +kernel) (List.forall_mem_cons.mpr ⟨ou_S_48_9, fun _ h => absurd h List.not_mem_nil⟩),
  s_aload_n (q := 0) (by decide +kernel) rfl,
  s_iconst (q := 3) (by decide +kernel) (by decide +kernel),
  s_iconst (q := 2) (by decide +kernel) (by decide +kernel),
  s_aload_n (q := 0) (by decide +kernel) rfl,
  s_callV (index := 52) (ins := .invokevirtual 52) (by decide +kernel) (List.forall_mem_cons.mpr ⟨ou_S_52_9, fun _ h => absurd h List.not_mem_nil⟩),
  s_callV (index := 48) (ins := .invokevirtual 48) (by decide +kernel) (List.forall_mem_cons.mpr ⟨ou_S_48_9, fun _ h => absurd h List.not_mem_nil⟩),
  s_aload_n (q := 0) (by decide +kernel) rfl,
  s_iconst (q := 5) (by decide +kernel) (by decide +kernel),
  s_iconst (q := 4) (by decide +kernel) (by decide +kernel),
  s_aload_n (q := 0) (by decide +kernel) rfl,
  s_callV (index := 56) (ins := .invokevirtual 56) (by decide +kernel) (List.forall_mem_cons.mpr ⟨ou_S_56_9, fun _ h => absurd h List.not_mem_nil⟩),
  s_callV (index := 48) (ins := .invokevirtual 48) (by decide +kernel) (List.forall_mem_cons.mpr ⟨ou_S_48_9, fun _ h => absurd h List.not_mem_nil⟩),
  s_return (by decide +kernel) rfl,
  trivial⟩
set_option maxRecDepth 100000 in
theorem mo_S_writeHead : z_alls (fun _ a => zMon a) tS_writeHead := ⟨m_aLR _ _, m_aLR _ _, m_aGI _ _ _, m_aCI _ _, m_aCall _ _ _ _, m_aPI _ _ _, m_aLR _ _, m_aCI _ _, m_aCI _ _, m_aLR _ _, m_aGI _ _ _, m_aCallV _ _ _ _ _, m_aLR _ _, m_aCI _ _, m_aCI _ _, m_aLR _ _, m_aGI _ _ _, m_aCallV _ _ _ _ _, m_aLR _ _, m_aCI _ _, m_aCI _ _, m_aLR _ _, m_aCallV _ _ _ _ _, m_aCallV _ _ _ _ _, m_aLR _ _, m_aCI _ _, m_aCI _ _, m_aLR _ _, m_aCallV _ _ _ _ _, m_aCallV _ _ _ _ _, m_aRV, trivial⟩
set_option maxRecDepth 100000 in
set_option maxHeartbeats 4000000 in
theorem ok_S_verdict (X : zX) (S : zS) (n0 : Nat) (hS : zSok S) : z_alls (zSnd X S n0 z_mts prog_12_method_9_code "RollPlayer$Strip" 2 false (some (.int))) tS_verdict :=
  ⟨s_aload_n (q := 0) (by decide +kernel) rfl,
  s_GI (index := 9) (by decide +kernel) fl_S_9 fg_S_9,
  s_ifeq (off := 5) (by decide +kernel) (by decide +kernel),
  s_iconst (q := 1) (by decide +kernel) (by decide +kernel),
  s_ireturn (by decide +kernel) rfl,
  s_aload_n (q := 0) (by decide +kernel) rfl,
  s_GI (index := 37) (by decide +kernel) fl_S_37 fg_S_37,
  s_bipush (q := 9) (by decide +kernel) (by decide +kernel),
  s_icmpge (off := 5) (by decide +kernel) (by decide +kernel),
  s_iconst (q := 2) (by decide +kernel) (by decide +kernel),
  s_ireturn (by decide +kernel) rfl,
  s_aload_n (q := 0) (by decide +kernel) rfl,
  s_iconst (q := 0) (by decide +kernel) (by decide +kernel),
  s_iconst (q := 1) (by decide +kernel) (by decide +kernel),
  s_callV (index := 44) (ins := .invokevirtual 44) (by decide +kernel) (List.forall_mem_cons.mpr ⟨ou_S_44_9, fun _ h => absurd h List.not_mem_nil⟩),
  s_aload_n (q := 0) (by decide +kernel) rfl,
  s_GI (index := 24) (by decide +kernel) fl_S_24 fg_S_24,
  s_icmpeq (off := 5) (by decide +kernel) (by decide +kernel),
  s_iconst (q := 5) (by decide +kernel) (by decide +kernel),
  s_ireturn (by decide +kernel) rfl,
  s_aload_n (q := 0) (by decide +kernel) rfl,
  s_iconst (q := 3) (by decide +kernel) (by decide +kernel),
  s_iconst (q := 2) (by decide +kernel) (by decide +kernel),
  s_callV (index := 44) (ins := .invokevirtual 44) (by decide +kernel) (List.forall_mem_cons.mpr ⟨ou_S_44_9, fun _ h => absurd h List.not_mem_nil⟩),
  s_istore_n (q := 1) (by decide +kernel) rfl (by decide),
  s_iload_n (q := 1) (by decide +kernel) rfl,
  s_aload_n (q := 0) (by decide +kernel) rfl,
  s_callV (index := 52) (ins := .invokevirtual 52) (by decide +kernel) (List.forall_mem_cons.mpr ⟨ou_S_52_9, fun _ h => absurd h List.not_mem_nil⟩),
  s_icmple (off := 6) (by decide +kernel) (by decide +kernel),
  s_bipush (q := 7) (by decide +kernel) (by decide +kernel),
  s_ireturn (by decide +kernel) rfl,
  s_iload_n (q := 1) (by decide +kernel) rfl,
  s_ifge (off := 5) (by decide +kernel) (by decide +kernel),
  s_iconst (q := 3) (by decide +kernel) (by decide +kernel),
  s_ireturn (by decide +kernel) rfl,
  s_iload_n (q := 1) (by decide +kernel) rfl,
  s_aload_n (q := 0) (by decide +kernel) rfl,
  s_callV (index := 52) (ins := .invokevirtual 52) (by decide +kernel) (List.forall_mem_cons.mpr ⟨ou_S_52_9, fun _ h => absurd h List.not_mem_nil⟩),
  s_icmpge (off := 6) (by decide +kernel) (by decide +kernel),
  s_bipush (q := 8) (by decide +kernel) (by decide +kernel),
  s_ireturn (by decide +kernel) rfl,
  s_aload_n (q := 0) (by decide +kernel) rfl,
  s_iconst (q := 5) (by decide +kernel) (by decide +kernel),
  s_iconst (q := 4) (by decide +kernel) (by decide +kernel),
  s_callV (index := 44) (ins := .invokevirtual 44) (by decide +kernel) (List.forall_mem_cons.mpr ⟨ou_S_44_9, fun _ h => absurd h List.not_mem_nil⟩),
  s_aload_n (q := 0) (by decide +kernel) rfl,
  s_callV (index := 56) (ins := .invokevirtual 56) (by decide +kernel) (List.forall_mem_cons.mpr ⟨ou_S_56_9, fun _ h => absurd h List.not_mem_nil⟩),
  s_icmpne (off := 7) (by decide +kernel) (by decide +kernel),
  s_iconst (q := 0) (by decide +kernel) (by decide +kernel),
  s_goto (off := 5) (by decide +kernel) (by decide +kernel),
  s_bipush (q := 9) (by decide +kernel) (by decide +kernel),
  s_ireturn (by decide +kernel) rfl,
  trivial⟩
set_option maxRecDepth 100000 in
theorem mo_S_verdict : z_alls (fun _ a => zMon a) tS_verdict := ⟨m_aLR _ _, m_aGI _ _ _, m_aIf _ _ _, m_aCI _ _, m_aRI, m_aLR _ _, m_aGI _ _ _, m_aCI _ _, m_aCmp _ _ _, m_aCI _ _, m_aRI, m_aLR _ _, m_aCI _ _, m_aCI _ _, m_aCallV _ _ _ _ _, m_aLR _ _, m_aGI _ _ _, m_aCmp _ _ _, m_aCI _ _, m_aRI, m_aLR _ _, m_aCI _ _, m_aCI _ _, m_aCallV _ _ _ _ _, m_aSI _ _, m_aLI _ _, m_aLR _ _, m_aCallV _ _ _ _ _, m_aCmp _ _ _, m_aCI _ _, m_aRI, m_aLI _ _, m_aIf _ _ _, m_aCI _ _, m_aRI, m_aLI _ _, m_aLR _ _, m_aCallV _ _ _ _ _, m_aCmp _ _ _, m_aCI _ _, m_aRI, m_aLR _ _, m_aCI _ _, m_aCI _ _, m_aCallV _ _ _ _ _, m_aLR _ _, m_aCallV _ _ _ _ _, m_aCmp _ _ _, m_aCI _ _, m_aGo _, m_aCI _ _, m_aRI, trivial⟩
set_option maxRecDepth 100000 in
set_option maxHeartbeats 4000000 in
theorem ok_S_dropAll (X : zX) (S : zS) (n0 : Nat) (hS : zSok S) : z_alls (zSnd X S n0 z_mts prog_12_method_10_code "RollPlayer$Strip" 1 false (none)) tS_dropAll :=
  ⟨s_aload_n (q := 0) (by decide +kernel) rfl,
  s_iconst (q := 1) (by decide +kernel) (by decide +kernel),
  s_PZ (index := 9) (by decide +kernel) fl_S_9 fp_S_9_false,
  s_aload_n (q := 0) (by decide +kernel) rfl,
  s_iconst (q := 0) (by decide +kernel) (by decide +kernel),
  s_PI (index := 37) (by decide +kernel) fl_S_37 fp_S_37_false,
  s_return (by decide +kernel) rfl,
  trivial⟩
set_option maxRecDepth 100000 in
theorem mo_S_dropAll : z_alls (fun _ a => zMon a) tS_dropAll := ⟨m_aLR _ _, m_aCI _ _, m_aPZ _ _ _, m_aLR _ _, m_aCI _ _, m_aPI _ _ _, m_aRV, trivial⟩
set_option maxRecDepth 100000 in
set_option maxHeartbeats 4000000 in
theorem ok_S_keepFirst (X : zX) (S : zS) (n0 : Nat) (hS : zSok S) : z_alls (zSnd X S n0 z_mts prog_12_method_11_code "RollPlayer$Strip" 2 false (none)) tS_keepFirst :=
  ⟨s_iload_n (q := 1) (by decide +kernel) rfl,
  s_aload_n (q := 0) (by decide +kernel) rfl,
  s_GI (index := 37) (by decide +kernel) fl_S_37 fg_S_37,
  s_icmplt (off := 4) (by decide +kernel) (by decide +kernel),
  s_return (by decide +kernel) rfl,
  s_aload_n (q := 0) (by decide +kernel) rfl,
  s_iload_n (q := 1) (by decide +kernel) rfl,
  s_bipush (q := 9) (by decide +kernel) (by decide +kernel),
  s_icmpgt (off := 7) (by decide +kernel) (by decide +kernel),
  s_iload_n (q := 1) (by decide +kernel) rfl,
  s_goto (off := 20) (by decide +kernel) (by decide +kernel),
  s_bipush (q := 9) (by decide +kernel) (by decide +kernel),
  s_iload_n (q := 1) (by decide +kernel) rfl,
  s_bipush (q := 9) (by decide +kernel) (by decide +kernel),
  s_isub (by decide +kernel),
  s_aload_n (q := 0) (by decide +kernel) rfl,
  s_GI (index := 34) (by decide +kernel) fl_S_34 fg_S_34,
  s_ishr (by decide +kernel),
  s_aload_n (q := 0) (by decide +kernel) rfl,
  s_GI (index := 34) (by decide +kernel) fl_S_34 fg_S_34,
  s_ishl (by decide +kernel),
  s_iadd (by decide +kernel),
  s_PI (index := 37) (by decide +kernel) fl_S_37 fp_S_37_false,
  s_return (by decide +kernel) rfl,
  trivial⟩
set_option maxRecDepth 100000 in
theorem mo_S_keepFirst : z_alls (fun _ a => zMon a) tS_keepFirst := ⟨m_aLI _ _, m_aLR _ _, m_aGI _ _ _, m_aCmp _ _ _, m_aRV, m_aLR _ _, m_aLI _ _, m_aCI _ _, m_aCmp _ _ _, m_aLI _ _, m_aGo _, m_aCI _ _, m_aLI _ _, m_aCI _ _, m_aB _ _, m_aLR _ _, m_aGI _ _ _, m_aB _ _, m_aLR _ _, m_aGI _ _ _, m_aB _ _, m_aB _ _, m_aPI _ _ _, m_aRV, trivial⟩
set_option maxRecDepth 100000 in
set_option maxHeartbeats 4000000 in
theorem ok_S_takeBytes (X : zX) (S : zS) (n0 : Nat) (hS : zSok S) : z_alls (zSnd X S n0 z_mts prog_12_method_12_code "RollPlayer$Strip" 2 false (none)) tS_takeBytes :=
  ⟨s_aload_n (q := 1) (by decide +kernel) rfl,
  s_GI (index := 37) (by decide +kernel) fl_S_37 fg_S_37,
  s_aload_n (q := 0) (by decide +kernel) rfl,
  s_GR (index := 40) (by decide +kernel) fl_S_40 fg_S_40,
  s_alen (by decide +kernel) (by decide +kernel),
  s_icmple (off := 20) (by decide +kernel) (by decide +kernel),
  s_aload_n (q := 0) (by decide +kernel) rfl,
  s_bipush (q := 9) (by decide +kernel) (by decide +kernel),
  s_sipush (q := 256) (by decide +kernel) (by decide +kernel),
  s_aload_n (q := 0) (by decide +kernel) rfl,
  s_GI (index := 34) (by decide +kernel) fl_S_34 fg_S_34,
  s_ishl (by decide +kernel),
  s_iadd (by decide +kernel),
  s_newarray (at1 := .byte) hS (by decide +kernel) (z_tb 213 (by decide +kernel)) rfl (by decide),
  s_PR (index := 40) (ty := (.array .byte)) (by decide +kernel) fl_S_40 (by decide +kernel) rfl fp_S_40_false,
  s_aload_n (q := 0) (by decide +kernel) rfl,
  s_aload_n (q := 1) (by decide +kernel) rfl,
  s_GI (index := 37) (by decide +kernel) fl_S_37 fg_S_37,
  s_aload_n (q := 0) (by decide +kernel) rfl,
  s_GR (index := 40) (by decide +kernel) fl_S_40 fg_S_40,
  s_alen (by decide +kernel) (by decide +kernel),
  s_callS (index := 15) (by decide +kernel) mt_Jm_min (cw_Jm_min _) (z_tb 177 (by decide +kernel)) (z_tb 178 (by decide +kernel)),
  s_PI (index := 37) (by decide +kernel) fl_S_37 fp_S_37_false,
  s_aload_n (q := 1) (by decide +kernel) rfl,
  s_GR (index := 40) (by decide +kernel) fl_S_40 fg_S_40,
  s_iconst (q := 0) (by decide +kernel) (by decide +kernel),
  s_aload_n (q := 0) (by decide +kernel) rfl,
  s_GR (index := 40) (by decide +kernel) fl_S_40 fg_S_40,
  s_iconst (q := 0) (by decide +kernel) (by decide +kernel),
  s_aload_n (q := 0) (by decide +kernel) rfl,
  s_GI (index := 37) (by decide +kernel) fl_S_37 fg_S_37,
  s_copy (index := 59) (by decide +kernel) (z_tb 867 (by decide +kernel)) (z_tb 642 (by decide +kernel)) (z_tb 641 (by decide +kernel)) (z_tb 16 (by decide +kernel)),
  s_aload_n (q := 0) (by decide +kernel) rfl,
  s_aload_n (q := 1) (by decide +kernel) rfl,
  s_GI (index := 9) (by decide +kernel) fl_S_9 fg_S_9,
  s_PZ (index := 9) (by decide +kernel) fl_S_9 fp_S_9_false,
  s_return (by decide +kernel) rfl,
  trivial⟩
set_option maxRecDepth 100000 in
theorem mo_S_takeBytes : z_alls (fun _ a => zMon a) tS_takeBytes := ⟨m_aLR _ _, m_aGI _ _ _, m_aLR _ _, m_aGR _ _ _, m_aALen _ _, m_aCmp _ _ _, m_aLR _ _, m_aCI _ _, m_aCI _ _, m_aLR _ _, m_aGI _ _ _, m_aB _ _, m_aB _ _, m_aNewA _ _, m_aPR _ _ _, m_aLR _ _, m_aLR _ _, m_aGI _ _ _, m_aLR _ _, m_aGR _ _ _, m_aALen _ _, m_aCall _ _ _ _, m_aPI _ _ _, m_aLR _ _, m_aGR _ _ _, m_aCI _ _, m_aLR _ _, m_aGR _ _ _, m_aCI _ _, m_aLR _ _, m_aGI _ _ _, m_aCopy _, m_aLR _ _, m_aLR _ _, m_aGI _ _ _, m_aPZ _ _ _, m_aRV, trivial⟩
set_option maxRecDepth 100000 in
set_option maxHeartbeats 4000000 in
theorem ok_S_twin (X : zX) (S : zS) (n0 : Nat) (hS : zSok S) : z_alls (zSnd X S n0 z_mts prog_12_method_13_code "RollPlayer$Strip" 2 false (some (.object "RollPlayer$Strip"))) tS_twin :=
  ⟨s_new (index := 10) (C := "RollPlayer$Strip") hS (by decide +kernel) (z_tb 861 (by decide +kernel)) (z_tb 172 (by decide +kernel)) (z_tb 5 (by decide +kernel)) rfl,
  s_dup (by decide +kernel),
  s_aload_n (q := 0) (by decide +kernel) rfl,
  s_GI (index := 24) (by decide +kernel) fl_S_24 fg_S_24,
  s_aload_n (q := 0) (by decide +kernel) rfl,
  s_GI (index := 28) (by decide +kernel) fl_S_28 fg_S_28,
  s_aload_n (q := 0) (by decide +kernel) rfl,
  s_GI (index := 31) (by decide +kernel) fl_S_31 fg_S_31,
  s_aload_n (q := 0) (by decide +kernel) rfl,
  s_callV (index := 52) (ins := .invokevirtual 52) (by decide +kernel) (List.forall_mem_cons.mpr ⟨ou_S_52_9, fun _ h => absurd h List.not_mem_nil⟩),
  s_callV (index := 65) (ins := .invokespecial 65) (by decide +kernel) (List.forall_mem_cons.mpr ⟨ou_S_65_9, fun _ h => absurd h List.not_mem_nil⟩),
  s_astore_n (q := 1) (by decide +kernel) rfl (by decide),
  s_aload_n (q := 1) (by decide +kernel) rfl,
  s_aload_n (q := 0) (by decide +kernel) rfl,
  s_callV (index := 68) (ins := .invokevirtual 68) (by decide +kernel) (List.forall_mem_cons.mpr ⟨ou_S_68_9, fun _ h => absurd h List.not_mem_nil⟩),
  s_aload_n (q := 1) (by decide +kernel) rfl,
  s_areturn (by decide +kernel) rfl,
  trivial⟩
set_option maxRecDepth 100000 in
theorem mo_S_twin : z_alls (fun _ a => zMon a) tS_twin := ⟨m_aNew _ _ _, m_aDup _, m_aLR _ _, m_aGI _ _ _, m_aLR _ _, m_aGI _ _ _, m_aLR _ _, m_aGI _ _ _, m_aLR _ _, m_aCallV _ _ _ _ _, m_aCallV _ _ _ _ _, m_aSR _ _, m_aLR _ _, m_aLR _ _, m_aCallV _ _ _ _ _, m_aLR _ _, m_aRR, trivial⟩
set_option maxRecDepth 100000 in
set_option maxHeartbeats 4000000 in
theorem ok_S_hasSpan (X : zX) (S : zS) (n0 : Nat) (hS : zSok S) : z_alls (zSnd X S n0 z_mts prog_12_method_14_code "RollPlayer$Strip" 3 false (some (.boolean))) tS_hasSpan :=
  ⟨s_iload_n (q := 2) (by decide +kernel) rfl,
  s_iflt (off := 21) (by decide +kernel) (by decide +kernel),
  s_iload_n (q := 1) (by decide +kernel) rfl,
  s_iflt (off := 17) (by decide +kernel) (by decide +kernel),
  s_iload_n (q := 1) (by decide +kernel) rfl,
  s_aload_n (q := 0) (by decide +kernel) rfl,
  s_callV (index := 52) (ins := .invokevirtual 52) (by decide +kernel) (List.forall_mem_cons.mpr ⟨ou_S_52_9, fun _ h => absurd h List.not_mem_nil⟩),
  s_iload_n (q := 2) (by decide +kernel) rfl,
  s_isub (by decide +kernel),
  s_icmpgt (off := 7) (by decide +kernel) (by decide +kernel),
  s_iconst (q := 1) (by decide +kernel) (by decide +kernel),
  s_goto (off := 4) (by decide +kernel) (by decide +kernel),
  s_iconst (q := 0) (by decide +kernel) (by decide +kernel),
  s_zreturn (by decide +kernel) rfl,
  trivial⟩
set_option maxRecDepth 100000 in
theorem mo_S_hasSpan : z_alls (fun _ a => zMon a) tS_hasSpan := ⟨m_aLI _ _, m_aIf _ _ _, m_aLI _ _, m_aIf _ _ _, m_aLI _ _, m_aLR _ _, m_aCallV _ _ _ _ _, m_aLI _ _, m_aB _ _, m_aCmp _ _ _, m_aCI _ _, m_aGo _, m_aCI _ _, m_aRZ, trivial⟩
set_option maxRecDepth 100000 in
set_option maxHeartbeats 4000000 in
theorem ok_S_takeElements (X : zX) (S : zS) (n0 : Nat) (hS : zSok S) : z_alls (zSnd X S n0 z_mts prog_12_method_15_code "RollPlayer$Strip" 5 false (none)) tS_takeElements :=
  ⟨s_aload_n (q := 2) (by decide +kernel) rfl,
  s_GR (index := 40) (by decide +kernel) fl_S_40 fg_S_40,
  s_bipush (q := 9) (by decide +kernel) (by decide +kernel),
  s_iload_n (q := 3) (by decide +kernel) rfl,
  s_aload_n (q := 0) (by decide +kernel) rfl,
  s_GI (index := 34) (by decide +kernel) fl_S_34 fg_S_34,
  s_ishl (by decide +kernel),
  s_iadd (by decide +kernel),
  s_aload_n (q := 0) (by decide +kernel) rfl,
  s_GR (index := 40) (by decide +kernel) fl_S_40 fg_S_40,
  s_bipush (q := 9) (by decide +kernel) (by decide +kernel),
  s_iload_n (q := 1) (by decide +kernel) rfl,
  s_aload_n (q := 0) (by decide +kernel) rfl,
  s_GI (index := 34) (by decide +kernel) fl_S_34 fg_S_34,
  s_ishl (by decide +kernel),
  s_iadd (by decide +kernel),
  s_iload (by decide +kernel),
  s_aload_n (q := 0) (by decide +kernel) rfl,
  s_GI (index := 34) (by decide +kernel) fl_S_34 fg_S_34,
  s_ishl (by decide +kernel),
  s_copy (index := 59) (by decide +kernel) (z_tb 867 (by decide +kernel)) (z_tb 642 (by decide +kernel)) (z_tb 641 (by decide +kernel)) (z_tb 16 (by decide +kernel)),
  s_return (by decide +kernel) rfl,
  trivial⟩
set_option maxRecDepth 100000 in
theorem mo_S_takeElements : z_alls (fun _ a => zMon a) tS_takeElements := ⟨m_aLR _ _, m_aGR _ _ _, m_aCI _ _, m_aLI _ _, m_aLR _ _, m_aGI _ _ _, m_aB _ _, m_aB _ _, m_aLR _ _, m_aGR _ _ _, m_aCI _ _, m_aLI _ _, m_aLR _ _, m_aGI _ _ _, m_aB _ _, m_aB _ _, m_aLI _ _, m_aLR _ _, m_aGI _ _ _, m_aB _ _, m_aCopy _, m_aRV, trivial⟩
set_option maxRecDepth 100000 in
set_option maxHeartbeats 4000000 in
theorem ok_S_isLike (X : zX) (S : zS) (n0 : Nat) (hS : zSok S) : z_alls (zSnd X S n0 z_mts prog_12_method_16_code "RollPlayer$Strip" 3 false (some (.boolean))) tS_isLike :=
  ⟨s_aload_n (q := 0) (by decide +kernel) rfl,
  s_GI (index := 24) (by decide +kernel) fl_S_24 fg_S_24,
  s_aload_n (q := 1) (by decide +kernel) rfl,
  s_GI (index := 24) (by decide +kernel) fl_S_24 fg_S_24,
  s_icmpne (off := 25) (by decide +kernel) (by decide +kernel),
  s_aload_n (q := 0) (by decide +kernel) rfl,
  s_GI (index := 28) (by decide +kernel) fl_S_28 fg_S_28,
  s_aload_n (q := 1) (by decide +kernel) rfl,
  s_GI (index := 28) (by decide +kernel) fl_S_28 fg_S_28,
  s_icmpne (off := 14) (by decide +kernel) (by decide +kernel),
  s_aload_n (q := 0) (by decide +kernel) rfl,
  s_GI (index := 31) (by decide +kernel) fl_S_31 fg_S_31,
  s_aload_n (q := 1) (by decide +kernel) rfl,
  s_GI (index := 31) (by decide +kernel) fl_S_31 fg_S_31,
  s_icmpeq (off := 5) (by decide +kernel) (by decide +kernel),
  s_iconst (q := 0) (by decide +kernel) (by decide +kernel),
  s_zreturn (by decide +kernel) rfl,
  s_aload_n (q := 0) (by decide +kernel) rfl,
  s_GI (index := 9) (by decide +kernel) fl_S_9 fg_S_9,
  s_aload_n (q := 1) (by decide +kernel) rfl,
  s_GI (index := 9) (by decide +kernel) fl_S_9 fg_S_9,
  s_icmpne (off := 14) (by decide +kernel) (by decide +kernel),
  s_aload_n (q := 0) (by decide +kernel) rfl,
  s_GI (index := 37) (by decide +kernel) fl_S_37 fg_S_37,
  s_aload_n (q := 1) (by decide +kernel) rfl,
  s_GI (index := 37) (by decide +kernel) fl_S_37 fg_S_37,
  s_icmpeq (off := 5) (by decide +kernel) (by decide +kernel),
  s_iconst (q := 0) (by decide +kernel) (by decide +kernel),
  s_zreturn (by decide +kernel) rfl,
  s_iconst (q := 0) (by decide +kernel) (by decide +kernel),
  s_istore_n (q := 2) (by decide +kernel) rfl (by decide),
  s_iload_n (q := 2) (by decide +kernel) rfl,
  s_aload_n (q := 0) (by decide +kernel) rfl,
  s_GI (index := 37) (by decide +kernel) fl_S_37 fg_S_37,
  s_icmpge (off := 26) (by decide +kernel) (by decide +kernel),
  s_aload_n (q := 0) (by decide +kernel) rfl,
  s_GR (index := 40) (by decide +kernel) fl_S_40 fg_S_40,
  s_iload_n (q := 2) (by decide +kernel) rfl,
  s_baloadB (by decide +kernel),
  s_aload_n (q := 1) (by decide +kernel) rfl,
  s_GR (index := 40) (by decide +kernel) fl_S_40 fg_S_40,
  s_iload_n (q := 2) (by decide +kernel) rfl,
  s_baloadB (by decide +kernel),
  s_icmpeq (off := 5) (by decide +kernel) (by decide +kernel),
  s_iconst (q := 0) (by decide +kernel) (by decide +kernel),
  s_zreturn (by decide +kernel) rfl,
  s_iinc (q := 1) (by decide +kernel) (by decide +kernel) (by decide),
  s_goto (off := (-28)) (by decide +kernel) (by decide +kernel),
  s_iconst (q := 1) (by decide +kernel) (by decide +kernel),
  s_zreturn (by decide +kernel) rfl,
  trivial⟩
set_option maxRecDepth 100000 in
theorem mo_S_isLike : z_alls (fun _ a => zMon a) tS_isLike := ⟨m_aLR _ _, m_aGI _ _ _, m_aLR _ _, m_aGI _ _ _, m_aCmp _ _ _, m_aLR _ _, m_aGI _ _ _, m_aLR _ _, m_aGI _ _ _, m_aCmp _ _ _, m_aLR _ _, m_aGI _ _ _, m_aLR _ _, m_aGI _ _ _, m_aCmp _ _ _, m_aCI _ _, m_aRZ, m_aLR _ _, m_aGI _ _ _, m_aLR _ _, m_aGI _ _ _, m_aCmp _ _ _, m_aLR _ _, m_aGI _ _ _, m_aLR _ _, m_aGI _ _ _, m_aCmp _ _ _, m_aCI _ _, m_aRZ, m_aCI _ _, m_aSI _ _, m_aLI _ _, m_aLR _ _, m_aGI _ _ _, m_aCmp _ _ _, m_aLR _ _, m_aGR _ _ _, m_aLI _ _, m_aXI _ _, m_aLR _ _, m_aGR _ _ _, m_aLI _ _, m_aXI _ _, m_aCmp _ _ _, m_aCI _ _, m_aRZ, m_aInc _ _ _, m_aGo _, m_aCI _ _, m_aRZ, trivial⟩
set_option maxRecDepth 100000 in
set_option maxHeartbeats 4000000 in
theorem ok_S_digestOnto (X : zX) (S : zS) (n0 : Nat) (hS : zSok S) : z_alls (zSnd X S n0 z_mts prog_12_method_17_code "RollPlayer$Strip" 4 false (some (.int))) tS_digestOnto :=
  ⟨s_iload_n (q := 1) (by decide +kernel) rfl,
  s_bipush (q := 31) (by decide +kernel) (by decide +kernel),
  s_imul (by decide +kernel),
  s_aload_n (q := 0) (by decide +kernel) rfl,
  s_GI (index := 24) (by decide +kernel) fl_S_24 fg_S_24,
  s_iadd (by decide +kernel),
  s_istore_n (q := 2) (by decide +kernel) rfl (by decide),
  s_iload_n (q := 2) (by decide +kernel) rfl,
  s_bipush (q := 31) (by decide +kernel) (by decide +kernel),
  s_imul (by decide +kernel),
  s_aload_n (q := 0) (by decide +kernel) rfl,
  s_GI (index := 28) (by decide +kernel) fl_S_28 fg_S_28,
  s_iadd (by decide +kernel),
  s_istore_n (q := 2) (by decide +kernel) rfl (by decide),
  s_iload_n (q := 2) (by decide +kernel) rfl,
  s_bipush (q := 31) (by decide +kernel) (by decide +kernel),
  s_imul (by decide +kernel),
  s_aload_n (q := 0) (by decide +kernel) rfl,
  s_GI (index := 31) (by decide +kernel) fl_S_31 fg_S_31,
  s_iadd (by decide +kernel),
  s_istore_n (q := 2) (by decide +kernel) rfl (by decide),
  s_iconst (q := 0) (by decide +kernel) (by decide +kernel),
  s_istore_n (q := 3) (by decide +kernel) rfl (by decide),
  s_iload_n (q := 3) (by decide +kernel) rfl,
  s_aload_n (q := 0) (by decide +kernel) rfl,
  s_GI (index := 37) (by decide +kernel) fl_S_37 fg_S_37,
  s_icmpge (off := 21) (by decide +kernel) (by decide +kernel),
  s_iload_n (q := 2) (by decide +kernel) rfl,
  s_bipush (q := 31) (by decide +kernel) (by decide +kernel),
  s_imul (by decide +kernel),
  s_aload_n (q := 0) (by decide +kernel) rfl,
  s_GR (index := 40) (by decide +kernel) fl_S_40 fg_S_40,
  s_iload_n (q := 3) (by decide +kernel) rfl,
  s_baloadB (by decide +kernel),
  s_iadd (by decide +kernel),
  s_istore_n (q := 2) (by decide +kernel) rfl (by decide),
  s_iinc (q := 1) (by decide +kernel) (by decide +kernel) (by decide),
  s_goto (off := (-23)) (by decide +kernel) (by decide +kernel),
  s_iload_n (q := 2) (by decide +kernel) rfl,
  s_ireturn (by decide +kernel) rfl,
  trivial⟩
set_option maxRecDepth 100000 in
theorem mo_S_digestOnto : z_alls (fun _ a => zMon a) tS_digestOnto := ⟨m_aLI _ _, m_aCI _ _, m_aB _ _, m_aLR _ _, m_aGI _ _ _, m_aB _ _, m_aSI _ _, m_aLI _ _, m_aCI _ _, m_aB _ _, m_aLR _ _, m_aGI _ _ _, m_aB _ _, m_aSI _ _, m_aLI _ _, m_aCI _ _, m_aB _ _, m_aLR _ _, m_aGI _ _ _, m_aB _ _, m_aSI _ _, m_aCI _ _, m_aSI _ _, m_aLI _ _, m_aLR _ _, m_aGI _ _ _, m_aCmp _ _ _, m_aLI _ _, m_aCI _ _, m_aB _ _, m_aLR _ _, m_aGR _ _ _, m_aLI _ _, m_aXI _ _, m_aB _ _, m_aSI _ _, m_aInc _ _ _, m_aGo _, m_aLI _ _, m_aRI, trivial⟩
set_option maxRecDepth 100000 in
set_option maxHeartbeats 4000000 in
theorem ok_L_init (X : zX) (S : zS) (n0 : Nat) (hS : zSok S) : z_alls (zSnd X S n0 z_mts prog_11_method_1_code "RollPlayer$Roll" 1 true (none)) tL_init :=
  ⟨s_aload_n (q := 0) (by decide +kernel) rfl,
  s_objinit (index := 3) (by decide +kernel) (z_tb 140 (by decide +kernel)) (z_tb 24 (by decide +kernel)) (z_tb 25 (by decide +kernel)),
  s_aload_n (q := 0) (by decide +kernel) rfl,
  s_sipush (q := 400) (by decide +kernel) (by decide +kernel),
  s_anewarray (index := 9) (C := "RollPlayer$Strip") hS (by decide +kernel) (z_tb 141 (by decide +kernel)) (z_tb 142 (by decide +kernel)) rfl (by decide),
  s_PR (index := 11) (ty := (.array (.object "RollPlayer$Strip"))) (by decide +kernel) fl_L_11 (by decide +kernel) rfl fp_L_11_true,
  s_aload_n (q := 0) (by decide +kernel) rfl,
  s_iconst (q := 0) (by decide +kernel) (by decide +kernel),
  s_PI (index := 17) (by decide +kernel) fl_L_17 fp_L_17_true,
  s_return (by decide +kernel) rfl,
  trivial⟩
set_option maxRecDepth 100000 in
theorem mo_L_init : z_alls (fun _ a => zMon a) tL_init := ⟨m_aLR _ _, m_aObj _, m_aLR _ _, m_aCI _ _, m_aNewA _ _, m_aPR _ _ _, m_aLR _ _, m_aCI _ _, m_aPI _ _ _, m_aRV, trivial⟩
set_option maxRecDepth 100000 in
set_option maxHeartbeats 4000000 in
theorem ok_L_stripAt (X : zX) (S : zS) (n0 : Nat) (hS : zSok S) : z_alls (zSnd X S n0 z_mts prog_11_method_2_code "RollPlayer$Roll" 2 false (some (.object "RollPlayer$Strip"))) tL_stripAt :=
  ⟨s_iload_n (q := 1) (by decide +kernel) rfl,
  s_iflt (off := 27) (by decide +kernel) (by decide +kernel),
  s_iload_n (q := 1) (by decide +kernel) rfl,
  s_aload_n (q := 0) (by decide +kernel) rfl,
  s_GI (index := 17) (by decide +kernel) fl_L_17 fg_L_17,
  s_icmpge (off := 19) (by decide +kernel) (by decide +kernel),
  s_iload_n (q := 1) (by decide +kernel) rfl,
  s_sipush (q := 400) (by decide +kernel) (by decide +kernel),
  s_icmpge (off := 12) (by decide +kernel) (by decide +kernel),
  s_aload_n (q := 0) (by decide +kernel) rfl,
  s_GR (index := 11) (by decide +kernel) fl_L_11 fg_L_11,
  s_iload_n (q := 1) (by decide +kernel) rfl,
  s_aaload (by decide +kernel) (by decide),
  s_goto (off := 4) (by decide +kernel) (by decide +kernel),
  s_Null (by decide +kernel),
  s_areturn (by decide +kernel) rfl,
  trivial⟩
set_option maxRecDepth 100000 in
theorem mo_L_stripAt : z_alls (fun _ a => zMon a) tL_stripAt := ⟨m_aLI _ _, m_aIf _ _ _, m_aLI _ _, m_aLR _ _, m_aGI _ _ _, m_aCmp _ _ _, m_aLI _ _, m_aCI _ _, m_aCmp _ _ _, m_aLR _ _, m_aGR _ _ _, m_aLI _ _, m_aXR _ _, m_aGo _, m_aNull _, m_aRR, trivial⟩
set_option maxRecDepth 100000 in
set_option maxHeartbeats 4000000 in
theorem ok_L_isWhole (X : zX) (S : zS) (n0 : Nat) (hS : zSok S) : z_alls (zSnd X S n0 z_mts prog_11_method_3_code "RollPlayer$Roll" 3 false (some (.boolean))) tL_isWhole :=
  ⟨s_aload_n (q := 0) (by decide +kernel) rfl,
  s_iload_n (q := 1) (by decide +kernel) rfl,
  s_callV (index := 21) (ins := .invokevirtual 21) (by decide +kernel) (List.forall_mem_cons.mpr ⟨ou_L_21_8, fun _ h => absurd h List.not_mem_nil⟩),
  s_astore_n (q := 2) (by decide +kernel) rfl (by decide),
  s_aload_n (q := 2) (by decide +kernel) rfl,
  s_ifnull (off := 14) (by decide +kernel) (by decide +kernel),
  s_aload_n (q := 2) (by decide +kernel) rfl,
  s_callV (index := 25) (ins := .invokevirtual 25) (by decide +kernel) (List.forall_mem_cons.mpr ⟨ou_L_25_9, fun _ h => absurd h List.not_mem_nil⟩),
  s_ifne (off := 7) (by decide +kernel) (by decide +kernel),
  s_iconst (q := 1) (by decide +kernel) (by decide +kernel),
  s_goto (off := 4) (by decide +kernel) (by decide +kernel),
  s_iconst (q := 0) (by decide +kernel) (by decide +kernel),
  s_zreturn (by decide +kernel) rfl,
  trivial⟩
set_option maxRecDepth 100000 in
theorem mo_L_isWhole : z_alls (fun _ a => zMon a) tL_isWhole := ⟨m_aLR _ _, m_aLI _ _, m_aCallV _ _ _ _ _, m_aSR _ _, m_aLR _ _, m_aNul _ _, m_aLR _ _, m_aCallV _ _ _ _ _, m_aIf _ _ _, m_aCI _ _, m_aGo _, m_aCI _ _, m_aRZ, trivial⟩
set_option maxRecDepth 100000 in
set_option maxHeartbeats 4000000 in
theorem ok_L_append (X : zX) (S : zS) (n0 : Nat) (hS : zSok S) : z_alls (zSnd X S n0 z_mts prog_11_method_4_code "RollPlayer$Roll" 2 false (none)) tL_append :=
  ⟨s_aload_n (q := 0) (by decide +kernel) rfl,
  s_GI (index := 17) (by decide +kernel) fl_L_17 fg_L_17,
  s_sipush (q := 400) (by decide +kernel) (by decide +kernel),
  s_icmplt (off := 4) (by decide +kernel) (by decide +kernel),
  s_return (by decide +kernel) rfl,
  s_aload_n (q := 0) (by decide +kernel) rfl,
  s_GR (index := 11) (by decide +kernel) fl_L_11 fg_L_11,
  s_aload_n (q := 0) (by decide +kernel) rfl,
  s_GI (index := 17) (by decide +kernel) fl_L_17 fg_L_17,
  s_aload_n (q := 1) (by decide +kernel) rfl,
  s_aastore (by decide +kernel) (by decide) (by decide +kernel),
  s_aload_n (q := 0) (by decide +kernel) rfl,
  s_dup (by decide +kernel),
  s_GI (index := 17) (by decide +kernel) fl_L_17 fg_L_17,
  s_iconst (q := 1) (by decide +kernel) (by decide +kernel),
  s_iadd (by decide +kernel),
  s_PI (index := 17) (by decide +kernel) fl_L_17 fp_L_17_false,
  s_return (by decide +kernel) rfl,
  trivial⟩
set_option maxRecDepth 100000 in
theorem mo_L_append : z_alls (fun _ a => zMon a) tL_append := ⟨m_aLR _ _, m_aGI _ _ _, m_aCI _ _, m_aCmp _ _ _, m_aRV, m_aLR _ _, m_aGR _ _ _, m_aLR _ _, m_aGI _ _ _, m_aLR _ _, m_aYR _ _ _, m_aLR _ _, m_aDup _, m_aGI _ _ _, m_aCI _ _, m_aB _ _, m_aPI _ _ _, m_aRV, trivial⟩
set_option maxRecDepth 100000 in
set_option maxHeartbeats 4000000 in
theorem ok_L_put (X : zX) (S : zS) (n0 : Nat) (hS : zSok S) : z_alls (zSnd X S n0 z_mts prog_11_method_5_code "RollPlayer$Roll" 3 false (none)) tL_put :=
  ⟨s_iload_n (q := 1) (by decide +kernel) rfl,
  s_iflt (off := 25) (by decide +kernel) (by decide +kernel),
  s_iload_n (q := 1) (by decide +kernel) rfl,
  s_aload_n (q := 0) (by decide +kernel) rfl,
  s_GI (index := 17) (by decide +kernel) fl_L_17 fg_L_17,
  s_icmpge (off := 17) (by decide +kernel) (by decide +kernel),
  s_iload_n (q := 1) (by decide +kernel) rfl,
  s_sipush (q := 400) (by decide +kernel) (by decide +kernel),
  s_icmpge (off := 10) (by decide +kernel) (by decide +kernel),
  s_aload_n (q := 0) (by decide +kernel) rfl,
  s_GR (index := 11) (by decide +kernel) fl_L_11 fg_L_11,
  s_iload_n (q := 1) (by decide +kernel) rfl,
  s_aload_n (q := 2) (by decide +kernel) rfl,
  s_aastore (by decide +kernel) (by decide) (by decide +kernel),
  s_return (by decide +kernel) rfl,
  trivial⟩
set_option maxRecDepth 100000 in
theorem mo_L_put : z_alls (fun _ a => zMon a) tL_put := ⟨m_aLI _ _, m_aIf _ _ _, m_aLI _ _, m_aLR _ _, m_aGI _ _ _, m_aCmp _ _ _, m_aLI _ _, m_aCI _ _, m_aCmp _ _ _, m_aLR _ _, m_aGR _ _ _, m_aLI _ _, m_aLR _ _, m_aYR _ _ _, m_aRV, trivial⟩
set_option maxRecDepth 100000 in
set_option maxHeartbeats 4000000 in
theorem ok_L_makeRoom (X : zX) (S : zS) (n0 : Nat) (hS : zSok S) : z_alls (zSnd X S n0 z_mts prog_11_method_6_code "RollPlayer$Roll" 4 false (none)) tL_makeRoom :=
  ⟨s_iload_n (q := 1) (by decide +kernel) rfl,
  s_iflt (off := 19) (by decide +kernel) (by decide +kernel),
  s_iload_n (q := 2) (by decide +kernel) rfl,
  s_iflt (off := 15) (by decide +kernel) (by decide +kernel),
  s_iload_n (q := 2) (by decide +kernel) rfl,
  s_sipush (q := 400) (by decide +kernel) (by decide +kernel),
  s_aload_n (q := 0) (by decide +kernel) rfl,
  s_GI (index := 17) (by decide +kernel) fl_L_17 fg_L_17,
  s_isub (by decide +kernel),
  s_icmple (off := 4) (by decide +kernel) (by decide +kernel),
  s_return (by decide +kernel) rfl,
  s_aload_n (q := 0) (by decide +kernel) rfl,
  s_GI (index := 17) (by decide +kernel) fl_L_17 fg_L_17,
  s_iconst (q := 1) (by decide +kernel) (by decide +kernel),
  s_isub (by decide +kernel),
  s_istore_n (q := 3) (by decide +kernel) rfl (by decide),
  s_iload_n (q := 3) (by decide +kernel) rfl,
  s_iload_n (q := 1) (by decide +kernel) rfl,
  s_icmplt (off := 23) (by decide +kernel) (by decide +kernel),
  s_aload_n (q := 0) (by decide +kernel) rfl,
  s_GR (index := 11) (by decide +kernel) fl_L_11 fg_L_11,
  s_iload_n (q := 3) (by decide +kernel) rfl,
  s_iload_n (q := 2) (by decide +kernel) rfl,
  s_iadd (by decide +kernel),
  s_aload_n (q := 0) (by decide +kernel) rfl,
  s_GR (index := 11) (by decide +kernel) fl_L_11 fg_L_11,
  s_iload_n (q := 3) (by decide +kernel) rfl,
  s_aaload (by decide +kernel) (by decide),
  s_aastore (by decide +kernel) (by decide) (by decide +kernel),
  s_iinc (q := (-1)) (by decide +kernel) (by decide +kernel) (by decide),
  s_goto (off := (-22)) (by decide +kernel) (by decide +kernel),
  s_aload_n (q := 0) (by decide +kernel) rfl,
  s_dup (by decide +kernel),
  s_GI (index := 17) (by decide +kernel) fl_L_17 fg_L_17,
  s_iload_n (q := 2) (by decide +kernel) rfl,
  s_iadd (by decide +kernel),
  s_PI (index := 17) (by decide +kernel) fl_L_17 fp_L_17_false,
  s_return (by decide +kernel) rfl,
  trivial⟩
set_option maxRecDepth 100000 in
theorem mo_L_makeRoom : z_alls (fun _ a => zMon a) tL_makeRoom := ⟨m_aLI _ _, m_aIf _ _ _, m_aLI _ _, m_aIf _ _ _, m_aLI _ _, m_aCI _ _, m_aLR _ _, m_aGI _ _ _, m_aB _ _, m_aCmp _ _ _, m_aRV, m_aLR _ _, m_aGI _ _ _, m_aCI _ _, m_aB _ _, m_aSI _ _, m_aLI _ _, m_aLI _ _, m_aCmp _ _ _, m_aLR _ _, m_aGR _ _ _, m_aLI _ _, m_aLI _ _, m_aB _ _, m_aLR _ _, m_aGR _ _ _, m_aLI _ _, m_aXR _ _, m_aYR _ _ _, m_aInc _ _ _, m_aGo _, m_aLR _ _, m_aDup _, m_aGI _ _ _, m_aLI _ _, m_aB _ _, m_aPI _ _ _, m_aRV, trivial⟩
set_option maxRecDepth 100000 in
set_option maxHeartbeats 4000000 in
theorem ok_L_elementsIn (X : zX) (S : zS) (n0 : Nat) (hS : zSok S) : z_alls (zSnd X S n0 z_mts prog_11_method_7_code "RollPlayer$Roll" 6 false (some (.int))) tL_elementsIn :=
  ⟨s_iconst (q := 0) (by decide +kernel) (by decide +kernel),
  s_istore_n (q := 3) (by decide +kernel) rfl (by decide),
  s_iconst (q := 0) (by decide +kernel) (by decide +kernel),
  s_istore (by decide +kernel) (by decide),
  s_iload (by decide +kernel),
  s_iload_n (q := 2) (by decide +kernel) rfl,
  s_icmpge (off := 32) (by decide +kernel) (by decide +kernel),
  s_aload_n (q := 0) (by decide +kernel) rfl,
  s_iload_n (q := 1) (by decide +kernel) rfl,
  s_iload (by decide +kernel),
  s_iadd (by decide +kernel),
  s_callV (index := 21) (ins := .invokevirtual 21) (by decide +kernel) (List.forall_mem_cons.mpr ⟨ou_L_21_8, fun _ h => absurd h List.not_mem_nil⟩),
  s_astore (by decide +kernel) (by decide),
  s_aload (by decide +kernel),
  s_ifnull (off := 11) (by decide +kernel) (by decide +kernel),
  s_iload_n (q := 3) (by decide +kernel) rfl,
  s_aload (by decide +kernel),
  s_callV (index := 29) (ins := .invokevirtual 29) (by decide +kernel) (List.forall_mem_cons.mpr ⟨ou_L_29_9, fun _ h => absurd h List.not_mem_nil⟩),
  s_iadd (by decide +kernel),
  s_istore_n (q := 3) (by decide +kernel) rfl (by decide),
  s_iinc (q := 1) (by decide +kernel) (by decide +kernel) (by decide),
  s_goto (off := (-32)) (by decide +kernel) (by decide +kernel),
  s_iload_n (q := 3) (by decide +kernel) rfl,
  s_ireturn (by decide +kernel) rfl,
  trivial⟩
set_option maxRecDepth 100000 in
theorem mo_L_elementsIn : z_alls (fun _ a => zMon a) tL_elementsIn := ⟨m_aCI _ _, m_aSI _ _, m_aCI _ _, m_aSI _ _, m_aLI _ _, m_aLI _ _, m_aCmp _ _ _, m_aLR _ _, m_aLI _ _, m_aLI _ _, m_aB _ _, m_aCallV _ _ _ _ _, m_aSR _ _, m_aLR _ _, m_aNul _ _, m_aLI _ _, m_aLR _ _, m_aCallV _ _ _ _ _, m_aB _ _, m_aSI _ _, m_aInc _ _ _, m_aGo _, m_aLI _ _, m_aRI, trivial⟩
set_option maxRecDepth 100000 in
set_option maxHeartbeats 4000000 in
theorem ok_L_splitAt (X : zX) (S : zS) (n0 : Nat) (hS : zSok S) : z_alls (zSnd X S n0 z_mts prog_11_method_8_code "RollPlayer$Roll" 5 false (some (.object "RollPlayer$Roll"))) tL_splitAt :=
  ⟨s_new (index := 12) (C := "RollPlayer$Roll") hS (by decide +kernel) (z_tb 835 (by decide +kernel)) (z_tb 136 (by decide +kernel)) (z_tb 4 (by decide +kernel)) rfl,
  s_dup (by decide +kernel),
  s_callV (index := 32) (ins := .invokespecial 32) (by decide +kernel) (List.forall_mem_cons.mpr ⟨ou_L_32_8, fun _ h => absurd h List.not_mem_nil⟩),
  s_astore_n (q := 2) (by decide +kernel) rfl (by decide),
  s_iload_n (q := 1) (by decide +kernel) rfl,
  s_iconst (q := 0) (by decide +kernel) (by decide +kernel),
  s_callS (index := 33) (by decide +kernel) mt_Jm_max (cw_Jm_max _) (z_tb 837 (by decide +kernel)) (z_tb 181 (by decide +kernel)),
  s_istore_n (q := 3) (by decide +kernel) rfl (by decide),
  s_iload_n (q := 3) (by decide +kernel) rfl,
  s_istore (by decide +kernel) (by decide),
  s_iload (by decide +kernel),
  s_aload_n (q := 0) (by decide +kernel) rfl,
  s_GI (index := 17) (by decide +kernel) fl_L_17 fg_L_17,
  s_icmpge (off := 19) (by decide +kernel) (by decide +kernel),
  s_aload_n (q := 2) (by decide +kernel) rfl,
  s_aload_n (q := 0) (by decide +kernel) rfl,
  s_iload (by decide +kernel),
  s_callV (index := 21) (ins := .invokevirtual 21) (by decide +kernel) (List.forall_mem_cons.mpr ⟨ou_L_21_8, fun _ h => absurd h List.not_mem_nil⟩),
  s_callV (index := 39) (ins := .invokevirtual 39) (by decide +kernel) (List.forall_mem_cons.mpr ⟨ou_L_39_8, fun _ h => absurd h List.not_mem_nil⟩),
  s_iinc (q := 1) (by decide +kernel) (by decide +kernel) (by decide),
  s_goto (off := (-22)) (by decide +kernel) (by decide +kernel),
  s_aload_n (q := 0) (by decide +kernel) rfl,
  s_iload_n (q := 3) (by decide +kernel) rfl,
  s_aload_n (q := 0) (by decide +kernel) rfl,
  s_GI (index := 17) (by decide +kernel) fl_L_17 fg_L_17,
  s_callS (index := 43) (by decide +kernel) mt_Jm_min (cw_Jm_min _) (z_tb 839 (by decide +kernel)) (z_tb 178 (by decide +kernel)),
  s_PI (index := 17) (by decide +kernel) fl_L_17 fp_L_17_false,
  s_aload_n (q := 2) (by decide +kernel) rfl,
  s_areturn (by decide +kernel) rfl,
  trivial⟩
set_option maxRecDepth 100000 in
theorem mo_L_splitAt : z_alls (fun _ a => zMon a) tL_splitAt := ⟨m_aNew _ _ _, m_aDup _, m_aCallV _ _ _ _ _, m_aSR _ _, m_aLI _ _, m_aCI _ _, m_aCall _ _ _ _, m_aSI _ _, m_aLI _ _, m_aSI _ _, m_aLI _ _, m_aLR _ _, m_aGI _ _ _, m_aCmp _ _ _, m_aLR _ _, m_aLR _ _, m_aLI _ _, m_aCallV _ _ _ _ _, m_aCallV _ _ _ _ _, m_aInc _ _ _, m_aGo _, m_aLR _ _, m_aLI _ _, m_aLR _ _, m_aGI _ _ _, m_aCall _ _ _ _, m_aPI _ _ _, m_aLR _ _, m_aRR, trivial⟩
set_option maxRecDepth 100000 in
set_option maxHeartbeats 4000000 in
theorem ok_N_init (X : zX) (S : zS) (n0 : Nat) (hS : zSok S) : z_alls (zSnd X S n0 z_mts prog_6_method_1_code "RollPlayer$Instrument" 3 true (none)) tN_init :=
  ⟨s_aload_n (q := 0) (by decide +kernel) rfl,
  s_objinit (index := 3) (by decide +kernel) (z_tb 350 (by decide +kernel)) (z_tb 24 (by decide +kernel)) (z_tb 25 (by decide +kernel)),
  s_aload_n (q := 0) (by decide +kernel) rfl,
  s_iconst (q := 1) (by decide +kernel) (by decide +kernel),
  s_PI (index := 9) (by decide +kernel) fl_N_9 fp_N_9_true,
  s_aload_n (q := 0) (by decide +kernel) rfl,
  s_iconst (q := 1) (by decide +kernel) (by decide +kernel),
  s_PI (index := 15) (by decide +kernel) fl_N_15 fp_N_15_true,
  s_aload_n (q := 0) (by decide +kernel) rfl,
  s_iconst (q := 1) (by decide +kernel) (by decide +kernel),
  s_PI (index := 18) (by decide +kernel) fl_N_18 fp_N_18_true,
  s_aload_n (q := 0) (by decide +kernel) rfl,
  s_iload_n (q := 1) (by decide +kernel) rfl,
  s_PI (index := 21) (by decide +kernel) fl_N_21 fp_N_21_true,
  s_aload_n (q := 0) (by decide +kernel) rfl,
  s_iload_n (q := 2) (by decide +kernel) rfl,
  s_PI (index := 24) (by decide +kernel) fl_N_24 fp_N_24_true,
  s_return (by decide +kernel) rfl,
  trivial⟩
set_option maxRecDepth 100000 in
theorem mo_N_init : z_alls (fun _ a => zMon a) tN_init := ⟨m_aLR _ _, m_aObj _, m_aLR _ _, m_aCI _ _, m_aPI _ _ _, m_aLR _ _, m_aCI _ _, m_aPI _ _ _, m_aLR _ _, m_aCI _ _, m_aPI _ _ _, m_aLR _ _, m_aLI _ _, m_aPI _ _ _, m_aLR _ _, m_aLI _ _, m_aPI _ _ _, m_aRV, trivial⟩
set_option maxRecDepth 100000 in
set_option maxHeartbeats 4000000 in
theorem ok_N_pitch (X : zX) (S : zS) (n0 : Nat) (hS : zSok S) : z_alls (zSnd X S n0 z_mts prog_6_method_3_code "RollPlayer$Instrument" 5 false (some (.double))) tN_pitch :=
  ⟨s_ldc2d (i := 27) (by decide +kernel) (z_tb 577 (by decide +kernel)),
  s_dreturn (by decide +kernel) rfl,
  trivial⟩
set_option maxRecDepth 100000 in
theorem mo_N_pitch : z_alls (fun _ a => zMon a) tN_pitch := ⟨m_aCD _ _, m_aRD, trivial⟩
set_option maxRecDepth 100000 in
set_option maxHeartbeats 4000000 in
theorem ok_N_ratioOf (X : zX) (S : zS) (n0 : Nat) (hS : zSok S) : z_alls (zSnd X S n0 z_mts prog_6_method_4_code "RollPlayer$Instrument" 3 false (some (.double))) tN_ratioOf :=
  ⟨s_aload_n (q := 0) (by decide +kernel) rfl,
  s_GI (index := 18) (by decide +kernel) fl_N_18 fg_N_18,
  s_ifne (off := 9) (by decide +kernel) (by decide +kernel),
  s_ldc2d (i := 27) (by decide +kernel) (z_tb 577 (by decide +kernel)),
  s_goto (off := 16) (by decide +kernel) (by decide +kernel),
  s_dload_n (q := 1) (by decide +kernel) rfl,
  s_aload_n (q := 0) (by decide +kernel) rfl,
  s_GI (index := 15) (by decide +kernel) fl_N_15 fg_N_15,
  s_i2d (by decide +kernel),
  s_aload_n (q := 0) (by decide +kernel) rfl,
  s_GI (index := 18) (by decide +kernel) fl_N_18 fg_N_18,
  s_i2d (by decide +kernel),
  s_ddiv (by decide +kernel),
  s_dmul (by decide +kernel),
  s_dreturn (by decide +kernel) rfl,
  trivial⟩
set_option maxRecDepth 100000 in
theorem mo_N_ratioOf : z_alls (fun _ a => zMon a) tN_ratioOf := ⟨m_aLR _ _, m_aGI _ _ _, m_aIf _ _ _, m_aCD _ _, m_aGo _, m_aLD _ _, m_aLR _ _, m_aGI _ _ _, m_aI2D _, m_aLR _ _, m_aGI _ _ _, m_aI2D _, m_aDD _ _, m_aDD _ _, m_aRD, trivial⟩
set_option maxRecDepth 100000 in
set_option maxHeartbeats 4000000 in
theorem ok_N_isOf (X : zX) (S : zS) (n0 : Nat) (hS : zSok S) : z_alls (zSnd X S n0 z_mts prog_6_method_5_code "RollPlayer$Instrument" 2 false (some (.boolean))) tN_isOf :=
  ⟨s_iload_n (q := 1) (by decide +kernel) rfl,
  s_bipush (q := 7) (by decide +kernel) (by decide +kernel),
  s_icmpeq (off := 11) (by decide +kernel) (by decide +kernel),
  s_iload_n (q := 1) (by decide +kernel) rfl,
  s_aload_n (q := 0) (by decide +kernel) rfl,
  s_GI (index := 24) (by decide +kernel) fl_N_24 fg_N_24,
  s_icmpne (off := 5) (by decide +kernel) (by decide +kernel),
  s_iconst (q := 1) (by decide +kernel) (by decide +kernel),
  s_zreturn (by decide +kernel) rfl,
  s_iload_n (q := 1) (by decide +kernel) rfl,
  s_ifne (off := 25) (by decide +kernel) (by decide +kernel),
  s_aload_n (q := 0) (by decide +kernel) rfl,
  s_GI (index := 24) (by decide +kernel) fl_N_24 fg_N_24,
  s_iconst (q := 1) (by decide +kernel) (by decide +kernel),
  s_icmpeq (off := 11) (by decide +kernel) (by decide +kernel),
  s_aload_n (q := 0) (by decide +kernel) rfl,
  s_GI (index := 24) (by decide +kernel) fl_N_24 fg_N_24,
  s_iconst (q := 2) (by decide +kernel) (by decide +kernel),
  s_icmpne (off := 7) (by decide +kernel) (by decide +kernel),
  s_iconst (q := 1) (by decide +kernel) (by decide +kernel),
  s_goto (off := 4) (by decide +kernel) (by decide +kernel),
  s_iconst (q := 0) (by decide +kernel) (by decide +kernel),
  s_zreturn (by decide +kernel) rfl,
  s_iload_n (q := 1) (by decide +kernel) rfl,
  s_iconst (q := 1) (by decide +kernel) (by decide +kernel),
  s_icmpne (off := 17) (by decide +kernel) (by decide +kernel),
  s_aload_n (q := 0) (by decide +kernel) rfl,
  s_GI (index := 24) (by decide +kernel) fl_N_24 fg_N_24,
  s_iconst (q := 2) (by decide +kernel) (by decide +kernel),
  s_icmpne (off := 7) (by decide +kernel) (by decide +kernel),
  s_iconst (q := 1) (by decide +kernel) (by decide +kernel),
  s_goto (off := 4) (by decide +kernel) (by decide +kernel),
  s_iconst (q := 0) (by decide +kernel) (by decide +kernel),
  s_zreturn (by decide +kernel) rfl,
  s_iload_n (q := 1) (by decide +kernel) rfl,
  s_iconst (q := 4) (by decide +kernel) (by decide +kernel),
  s_icmpne (off := 15) (by decide +kernel) (by decide +kernel),
  s_aload_n (q := 0) (by decide +kernel) rfl,
  s_GI (index := 24) (by decide +kernel) fl_N_24 fg_N_24,
  s_iconst (q := 5) (by decide +kernel) (by decide +kernel),
  s_icmpne (off := 7) (by decide +kernel) (by decide +kernel),
  s_iconst (q := 1) (by decide +kernel) (by decide +kernel),
  s_goto (off := 4) (by decide +kernel) (by decide +kernel),
  s_iconst (q := 0) (by decide +kernel) (by decide +kernel),
  s_zreturn (by decide +kernel) rfl,
  trivial⟩
set_option maxRecDepth 100000 in
theorem mo_N_isOf : z_alls (fun _ a => zMon a) tN_isOf := ⟨m_aLI _ _, m_aCI _ _, m_aCmp _ _ _, m_aLI _ _, m_aLR _ _, m_aGI _ _ _, m_aCmp _ _ _, m_aCI _ _, m_aRZ, m_aLI _ _, m_aIf _ _ _, m_aLR _ _, m_aGI _ _ _, m_aCI _ _, m_aCmp _ _ _, m_aLR _ _, m_aGI _ _ _, m_aCI _ _, m_aCmp _ _ _, m_aCI _ _, m_aGo _, m_aCI _ _, m_aRZ, m_aLI _ _, m_aCI _ _, m_aCmp _ _ _, m_aLR _ _, m_aGI _ _ _, m_aCI _ _, m_aCmp _ _ _, m_aCI _ _, m_aGo _, m_aCI _ _, m_aRZ, m_aLI _ _, m_aCI _ _, m_aCmp _ _ _, m_aLR _ _, m_aGI _ _ _, m_aCI _ _, m_aCmp _ _ _, m_aCI _ _, m_aGo _, m_aCI _ _, m_aRZ, trivial⟩
set_option maxRecDepth 100000 in
set_option maxHeartbeats 4000000 in
theorem ok_N_timesWithin (X : zX) (S : zS) (n0 : Nat) (hS : zSok S) : z_alls (zSnd X S n0 z_mts prog_6_method_6_code "RollPlayer$Instrument" 3 false (some (.int))) tN_timesWithin :=
  ⟨s_aload_n (q := 0) (by decide +kernel) rfl,
  s_GI (index := 21) (by decide +kernel) fl_N_21 fg_N_21,
  s_iload_n (q := 1) (by decide +kernel) rfl,
  s_icmpne (off := 7) (by decide +kernel) (by decide +kernel),
  s_iconst (q := 1) (by decide +kernel) (by decide +kernel),
  s_goto (off := 4) (by decide +kernel) (by decide +kernel),
  s_iconst (q := 0) (by decide +kernel) (by decide +kernel),
  s_ireturn (by decide +kernel) rfl,
  trivial⟩
set_option maxRecDepth 100000 in
theorem mo_N_timesWithin : z_alls (fun _ a => zMon a) tN_timesWithin := ⟨m_aLR _ _, m_aGI _ _ _, m_aLI _ _, m_aCmp _ _ _, m_aCI _ _, m_aGo _, m_aCI _ _, m_aRI, trivial⟩
set_option maxRecDepth 100000 in
set_option maxHeartbeats 4000000 in
theorem ok_Pipe_init (X : zX) (S : zS) (n0 : Nat) (hS : zSok S) : z_alls (zSnd X S n0 z_mts prog_8_method_1_code "RollPlayer$Pipe" 3 true (none)) tPipe_init :=
  ⟨s_aload_n (q := 0) (by decide +kernel) rfl,
  s_iload_n (q := 1) (by decide +kernel) rfl,
  s_iload_n (q := 2) (by decide +kernel) rfl,
  s_callV (index := 3) (ins := .invokespecial 3) (by decide +kernel) (List.forall_mem_cons.mpr ⟨ou_Pipe_3_0, List.forall_mem_cons.mpr ⟨ou_Pipe_3_1, List.forall_mem_cons.mpr ⟨ou_Pipe_3_2, List.forall_mem_cons.mpr ⟨ou_Pipe_3_3, List.forall_mem_cons.mpr ⟨ou_Pipe_3_5, List.forall_mem_cons.mpr ⟨ou_Pipe_3_6, List.forall_mem_cons.mpr ⟨ou_Pipe_3_7, fun _ h => absurd h List.not_mem_nil⟩⟩⟩⟩⟩⟩⟩),
  s_return (by decide +kernel) rfl,
  trivial⟩
set_option maxRecDepth 100000 in
theorem mo_Pipe_init : z_alls (fun _ a => zMon a) tPipe_init := ⟨m_aLR _ _, m_aLI _ _, m_aLI _ _, m_aCallV _ _ _ _ _, m_aRV, trivial⟩
set_option maxRecDepth 100000 in
set_option maxHeartbeats 4000000 in
theorem ok_Pipe_air (X : zX) (S : zS) (n0 : Nat) (hS : zSok S) : z_alls (zSnd X S n0 z_mts prog_8_method_2_code "RollPlayer$Pipe" 3 false (some (.int))) tPipe_air :=
  ⟨s_aload_n (q := 2) (by decide +kernel) rfl,
  s_bipush (q := 6) (by decide +kernel) (by decide +kernel),
  s_dup2 (by decide +kernel),
  s_iaload (by decide +kernel),
  s_iconst (q := 1) (by decide +kernel) (by decide +kernel),
  s_iadd (by decide +kernel),
  s_iastore (by decide +kernel),
  s_iconst (q := 3) (by decide +kernel) (by decide +kernel),
  s_iload_n (q := 1) (by decide +kernel) rfl,
  s_iadd (by decide +kernel),
  s_ireturn (by decide +kernel) rfl,
  trivial⟩
set_option maxRecDepth 100000 in
theorem mo_Pipe_air : z_alls (fun _ a => zMon a) tPipe_air := ⟨m_aLR _ _, m_aCI _ _, m_aDup2 _, m_aXI _ _, m_aCI _ _, m_aB _ _, m_aYI _, m_aCI _ _, m_aLI _ _, m_aB _ _, m_aRI, trivial⟩
set_option maxRecDepth 100000 in
set_option maxHeartbeats 4000000 in
theorem ok_Pipe_loudness (X : zX) (S : zS) (n0 : Nat) (hS : zSok S) : z_alls (zSnd X S n0 z_mts prog_8_method_3_code "RollPlayer$Pipe" 5 false (some (.int))) tPipe_loudness :=
  ⟨s_aload (by decide +kernel),
  s_iconst (q := 0) (by decide +kernel) (by decide +kernel),
  s_dup2 (by decide +kernel),
  s_iaload (by decide +kernel),
  s_iconst (q := 1) (by decide +kernel) (by decide +kernel),
  s_iadd (by decide +kernel),
  s_iastore (by decide +kernel),
  s_iload_n (q := 1) (by decide +kernel) rfl,
  s_aload_n (q := 0) (by decide +kernel) rfl,
  s_iload_n (q := 3) (by decide +kernel) rfl,
  s_aload (by decide +kernel),
  s_callU (index := 9) (ins := .invokevirtual 9) (by decide +kernel) (List.forall_mem_cons.mpr ⟨ou_Pipe_9_0, List.forall_mem_cons.mpr ⟨ou_Pipe_9_5, List.forall_mem_cons.mpr ⟨ou_Pipe_9_7, fun _ h => absurd h List.not_mem_nil⟩⟩⟩),
  s_iadd (by decide +kernel),
  s_ireturn (by decide +kernel) rfl,
  trivial⟩
set_option maxRecDepth 100000 in
theorem mo_Pipe_loudness : z_alls (fun _ a => zMon a) tPipe_loudness := ⟨m_aLR _ _, m_aCI _ _, m_aDup2 _, m_aXI _ _, m_aCI _ _, m_aB _ _, m_aYI _, m_aLI _ _, m_aLR _ _, m_aLI _ _, m_aLR _ _, m_aCallU _ _ _ _, m_aB _ _, m_aRI, trivial⟩
set_option maxRecDepth 100000 in
set_option maxHeartbeats 4000000 in
theorem ok_Pipe_pitch (X : zX) (S : zS) (n0 : Nat) (hS : zSok S) : z_alls (zSnd X S n0 z_mts prog_8_method_4_code "RollPlayer$Pipe" 5 false (some (.double))) tPipe_pitch :=
  ⟨s_aload_n (q := 3) (by decide +kernel) rfl,
  s_bipush (q := 8) (by decide +kernel) (by decide +kernel),
  s_dup2 (by decide +kernel),
  s_iaload (by decide +kernel),
  s_iconst (q := 1) (by decide +kernel) (by decide +kernel),
  s_iadd (by decide +kernel),
  s_iastore (by decide +kernel),
  s_aload_n (q := 0) (by decide +kernel) rfl,
  s_dload_n (q := 1) (by decide +kernel) rfl,
  s_callU (index := 15) (ins := .invokevirtual 15) (by decide +kernel) (List.forall_mem_cons.mpr ⟨ou_Pipe_15_0, List.forall_mem_cons.mpr ⟨ou_Pipe_15_5, List.forall_mem_cons.mpr ⟨ou_Pipe_15_7, fun _ h => absurd h List.not_mem_nil⟩⟩⟩),
  s_dreturn (by decide +kernel) rfl,
  trivial⟩
set_option maxRecDepth 100000 in
theorem mo_Pipe_pitch : z_alls (fun _ a => zMon a) tPipe_pitch := ⟨m_aLR _ _, m_aCI _ _, m_aDup2 _, m_aXI _ _, m_aCI _ _, m_aB _ _, m_aYI _, m_aLR _ _, m_aLD _ _, m_aCallU _ _ _ _, m_aRD, trivial⟩
set_option maxRecDepth 100000 in
set_option maxHeartbeats 4000000 in
theorem ok_Reed_init (X : zX) (S : zS) (n0 : Nat) (hS : zSok S) : z_alls (zSnd X S n0 z_mts prog_10_method_1_code "RollPlayer$Reed" 3 true (none)) tReed_init :=
  ⟨s_aload_n (q := 0) (by decide +kernel) rfl,
  s_iload_n (q := 1) (by decide +kernel) rfl,
  s_iload_n (q := 2) (by decide +kernel) rfl,
  s_callV (index := 3) (ins := .invokespecial 3) (by decide +kernel) (List.forall_mem_cons.mpr ⟨ou_Reed_3_0, List.forall_mem_cons.mpr ⟨ou_Reed_3_5, List.forall_mem_cons.mpr ⟨ou_Reed_3_7, fun _ h => absurd h List.not_mem_nil⟩⟩⟩),
  s_return (by decide +kernel) rfl,
  trivial⟩
set_option maxRecDepth 100000 in
theorem mo_Reed_init : z_alls (fun _ a => zMon a) tReed_init := ⟨m_aLR _ _, m_aLI _ _, m_aLI _ _, m_aCallV _ _ _ _ _, m_aRV, trivial⟩
set_option maxRecDepth 100000 in
set_option maxHeartbeats 4000000 in
theorem ok_Reed_loudness (X : zX) (S : zS) (n0 : Nat) (hS : zSok S) : z_alls (zSnd X S n0 z_mts prog_10_method_2_code "RollPlayer$Reed" 5 false (some (.int))) tReed_loudness :=
  ⟨s_aload (by decide +kernel),
  s_iconst (q := 1) (by decide +kernel) (by decide +kernel),
  s_dup2 (by decide +kernel),
  s_iaload (by decide +kernel),
  s_iconst (q := 1) (by decide +kernel) (by decide +kernel),
  s_iadd (by decide +kernel),
  s_iastore (by decide +kernel),
  s_aload_n (q := 0) (by decide +kernel) rfl,
  s_iload_n (q := 1) (by decide +kernel) rfl,
  s_iload_n (q := 2) (by decide +kernel) rfl,
  s_iload_n (q := 3) (by decide +kernel) rfl,
  s_aload (by decide +kernel),
  s_callV (index := 9) (ins := .invokespecial 9) (by decide +kernel) (List.forall_mem_cons.mpr ⟨ou_Reed_9_0, List.forall_mem_cons.mpr ⟨ou_Reed_9_5, List.forall_mem_cons.mpr ⟨ou_Reed_9_7, fun _ h => absurd h List.not_mem_nil⟩⟩⟩),
  s_bipush (q := 7) (by decide +kernel) (by decide +kernel),
  s_iadd (by decide +kernel),
  s_ireturn (by decide +kernel) rfl,
  trivial⟩
set_option maxRecDepth 100000 in
theorem mo_Reed_loudness : z_alls (fun _ a => zMon a) tReed_loudness := ⟨m_aLR _ _, m_aCI _ _, m_aDup2 _, m_aXI _ _, m_aCI _ _, m_aB _ _, m_aYI _, m_aLR _ _, m_aLI _ _, m_aLI _ _, m_aLI _ _, m_aLR _ _, m_aCallV _ _ _ _ _, m_aCI _ _, m_aB _ _, m_aRI, trivial⟩
set_option maxRecDepth 100000 in
set_option maxHeartbeats 4000000 in
theorem ok_Reed_pitch (X : zX) (S : zS) (n0 : Nat) (hS : zSok S) : z_alls (zSnd X S n0 z_mts prog_10_method_3_code "RollPlayer$Reed" 7 false (some (.double))) tReed_pitch :=
  ⟨s_aload_n (q := 3) (by decide +kernel) rfl,
  s_bipush (q := 9) (by decide +kernel) (by decide +kernel),
  s_dup2 (by decide +kernel),
  s_iaload (by decide +kernel),
  s_iconst (q := 1) (by decide +kernel) (by decide +kernel),
  s_iadd (by decide +kernel),
  s_iastore (by decide +kernel),
  s_aload_n (q := 0) (by decide +kernel) rfl,
  s_dload_n (q := 1) (by decide +kernel) rfl,
  s_aload_n (q := 3) (by decide +kernel) rfl,
  s_iload (by decide +kernel),
  s_callV (index := 13) (ins := .invokespecial 13) (by decide +kernel) (List.forall_mem_cons.mpr ⟨ou_Reed_13_0, List.forall_mem_cons.mpr ⟨ou_Reed_13_5, List.forall_mem_cons.mpr ⟨ou_Reed_13_7, fun _ h => absurd h List.not_mem_nil⟩⟩⟩),
  s_dstore (by decide +kernel) (by decide),
  s_dload (by decide +kernel),
  s_dconst0 (by decide +kernel) (by decide +kernel),
  s_dcmp (by decide +kernel),
  s_ifge (off := 8) (by decide +kernel) (by decide +kernel),
  s_dload (by decide +kernel),
  s_goto (off := 9) (by decide +kernel) (by decide +kernel),
  s_dload (by decide +kernel),
  s_ldc2d (i := 17) (by decide +kernel) (z_tb 578 (by decide +kernel)),
  s_ddiv (by decide +kernel),
  s_dreturn (by decide +kernel) rfl,
  trivial⟩
set_option maxRecDepth 100000 in
theorem mo_Reed_pitch : z_alls (fun _ a => zMon a) tReed_pitch := ⟨m_aLR _ _, m_aCI _ _, m_aDup2 _, m_aXI _ _, m_aCI _ _, m_aB _ _, m_aYI _, m_aLR _ _, m_aLD _ _, m_aLR _ _, m_aLI _ _, m_aCallV _ _ _ _ _, m_aSD _ _, m_aLD _ _, m_aCD _ _, m_aDcmp _ _, m_aIf _ _ _, m_aLD _ _, m_aGo _, m_aLD _ _, m_aCD _ _, m_aDD _ _, m_aRD, trivial⟩
