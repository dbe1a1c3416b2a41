/-! THE LAW, CALL BY CALL -/
theorem dL_law_784 : decode cL_law 784 = .ok (.aload_n 1, 1) := by decide +kernel
theorem dL_law_785 : decode cL_law 785 = .ok (.aload_n 0, 1) := by decide +kernel
theorem dL_law_786 : decode cL_law 786 = .ok (.iload 4, 2) := by decide +kernel
theorem dL_law_788 : decode cL_law 788 = .ok (.iconst 1, 1) := by decide +kernel
theorem dL_law_789 : decode cL_law 789 = .ok (.iadd, 1) := by decide +kernel
theorem dL_law_790 : decode cL_law 790 = .ok (.iaload, 1) := by decide +kernel
theorem dL_law_791 : decode cL_law 791 = .ok (.invokestatic 120, 3) := by decide +kernel
theorem dL_law_794 : decode cL_law 794 = .ok (.istore 5, 2) := by decide +kernel
theorem dL_law_796 : decode cL_law 796 = .ok (.aload_n 2, 1) := by decide +kernel
theorem dL_law_797 : decode cL_law 797 = .ok (.aload_n 0, 1) := by decide +kernel
theorem dL_law_798 : decode cL_law 798 = .ok (.iload 4, 2) := by decide +kernel
theorem dL_law_800 : decode cL_law 800 = .ok (.iconst 1, 1) := by decide +kernel
theorem dL_law_801 : decode cL_law 801 = .ok (.iadd, 1) := by decide +kernel
theorem dL_law_802 : decode cL_law 802 = .ok (.iaload, 1) := by decide +kernel
theorem dL_law_803 : decode cL_law 803 = .ok (.invokevirtual 122, 3) := by decide +kernel
theorem dL_law_806 : decode cL_law 806 = .ok (.aload_n 2, 1) := by decide +kernel
theorem dL_law_807 : decode cL_law 807 = .ok (.invokevirtual 77, 3) := by decide +kernel
theorem dL_law_810 : decode cL_law 810 = .ok (.iload 5, 2) := by decide +kernel
theorem dL_law_812 : decode cL_law 812 = .ok (.if_icmp .eq 5, 3) := by decide +kernel
theorem dL_law_815 : decode cL_law 815 = .ok (.iconst 0, 1) := by decide +kernel
theorem dL_law_816 : decode cL_law 816 = .ok (.ireturn, 1) := by decide +kernel
theorem dL_law_817 : decode cL_law 817 = .ok (.goto 201, 3) := by decide +kernel
set_option maxHeartbeats 4000000 in
set_option maxRecDepth 100000 in
theorem lw_pass {p : Program} {l : Launch} {e : Env} {R : Room} {s : State} {m : MethodId} {args : Array Value} {below : List Frame} {meth : Method} {c : Code} {D : va_G} {dA : Nat → ClassId} {bs b L : Nat} {xs : Nat → Int32} {x mo o : Option Nat} {Q : State → Prop} (hl : l.stackTraces = false) (C : h_C p m c code 7 s args RL D dA) (hE : h_EY bs s) (hF : 12 ≤ R.frames) (hLo : 464 ≤ R.locals) (hX : va_X b L xs s s.heap) (hbl : b < s.heap.size) (hbs : bs = s.heap.size) {i : Nat} (hi : i + 5 ≤ L) (hL : L ≤ 2560) {σ : HS} {K : HS → Prop} (h : lc_pass xs x mo o i σ K)
    (kk : ∀ τ, K τ → V p l e R s m args below meth c D dA bs 7 Q τ 1018 [(4, .int (nI i)), (3, va_rf o), (2, va_rf mo), (1, va_rf x), (0, va_rf (some b))] []) : V p l e R s m args below meth c D dA bs 7 Q σ 784 [(4, .int (nI i)), (3, va_rf o), (2, va_rf mo), (1, va_rf x), (0, va_rf (some b))] [] := by
  obtain ⟨q, r, σ1, hq, h1, hk, hn⟩ := h
  refine V_aload_n C 3 dL_law_784 rfl rfl ?_
  refine V_aload_n C 4 dL_law_785 rfl rfl ?_
  refine V_iload C 0 dL_law_786 rfl ?_
  refine V_iconst (v := 1) C dL_law_788 (by decide) ?_
  refine V_iadd C dL_law_789 ?_
  rw [lw_a1]
  refine V_sld C hX hbl hbs (j := i + 1) (by omega) (by omega) dL_law_790 ?_
  refine V_cH (As := [va_rf x, .int (xs (i + 1))]) (rest := []) C mh_120 (m_L_pass l hl D dA bs hq h1 hk) hE rfl rfl (Nat.le_trans h_w0 (by decide)) (Nat.le_trans (by decide) hF) (Nat.le_trans (by decide) hLo) dL_law_791 (fun k σ2 hp => ?_)
  obtain ⟨q2, hq2, σ3, h2, q3, hq3, σ4, h3, hK⟩ := hn k σ2 hp
  refine V_istore (lv' := [(5, .int k), (4, .int (nI i)), (3, va_rf o), (2, va_rf mo), (1, va_rf x), (0, va_rf (some b))]) C dL_law_794 (by decide) rfl ?_
  refine V_aload_n C 3 dL_law_796 rfl rfl ?_
  refine V_aload_n C 5 dL_law_797 rfl rfl ?_
  refine V_iload C 1 dL_law_798 rfl ?_
  refine V_iconst (v := 1) C dL_law_800 (by decide) ?_
  refine V_iadd C dL_law_801 ?_
  rw [lw_a1]
  refine V_sld C hX hbl hbs (j := i + 1) (by omega) (by omega) dL_law_802 ?_
  refine V_cV (As := [.int (xs (i + 1))]) (rest := []) C mv_RL_122 (m_X10_pass l D dA bs h2) hq2 rfl rfl (Nat.le_trans h_w0 (by decide)) (Nat.le_trans (by decide) hF) (Nat.le_trans (by decide) hLo) dL_law_803 ?_
  refine V_aload_n C 3 dL_law_806 rfl rfl ?_
  refine V_cV (As := []) (rest := []) C mv_RL_77 (m_X10_thrown l D dA bs h3) hq3 rfl rfl (Nat.le_trans h_w0 (by decide)) (Nat.le_trans (by decide) hF) (Nat.le_trans (by decide) hLo) dL_law_807 ?_
  refine V_iload C 0 dL_law_810 rfl ?_
  refine V_icmp_eq (tgt := 817) C dL_law_812 (by decide) (fun _ => ?_) (fun g => absurd rfl g)
  refine V_goto (tgt := 1018) C dL_law_817 (by decide) ?_
  exact V_sub [1, 2, 3, 4, 5] rfl (kk σ4 hK)
theorem dL_law_820 : decode cL_law 820 = .ok (.aload_n 1, 1) := by decide +kernel
theorem dL_law_821 : decode cL_law 821 = .ok (.aload_n 0, 1) := by decide +kernel
theorem dL_law_822 : decode cL_law 822 = .ok (.iload 4, 2) := by decide +kernel
theorem dL_law_824 : decode cL_law 824 = .ok (.iconst 1, 1) := by decide +kernel
theorem dL_law_825 : decode cL_law 825 = .ok (.iadd, 1) := by decide +kernel
theorem dL_law_826 : decode cL_law 826 = .ok (.iaload, 1) := by decide +kernel
theorem dL_law_827 : decode cL_law 827 = .ok (.aload_n 0, 1) := by decide +kernel
theorem dL_law_828 : decode cL_law 828 = .ok (.iload 4, 2) := by decide +kernel
theorem dL_law_830 : decode cL_law 830 = .ok (.iconst 2, 1) := by decide +kernel
theorem dL_law_831 : decode cL_law 831 = .ok (.iadd, 1) := by decide +kernel
theorem dL_law_832 : decode cL_law 832 = .ok (.iaload, 1) := by decide +kernel
theorem dL_law_833 : decode cL_law 833 = .ok (.aload_n 3, 1) := by decide +kernel
theorem dL_law_834 : decode cL_law 834 = .ok (.invokestatic 123, 3) := by decide +kernel
theorem dL_law_837 : decode cL_law 837 = .ok (.istore 5, 2) := by decide +kernel
theorem dL_law_839 : decode cL_law 839 = .ok (.aload_n 2, 1) := by decide +kernel
theorem dL_law_840 : decode cL_law 840 = .ok (.aload_n 0, 1) := by decide +kernel
theorem dL_law_841 : decode cL_law 841 = .ok (.iload 4, 2) := by decide +kernel
theorem dL_law_843 : decode cL_law 843 = .ok (.iconst 1, 1) := by decide +kernel
theorem dL_law_844 : decode cL_law 844 = .ok (.iadd, 1) := by decide +kernel
theorem dL_law_845 : decode cL_law 845 = .ok (.iaload, 1) := by decide +kernel
theorem dL_law_846 : decode cL_law 846 = .ok (.aload_n 0, 1) := by decide +kernel
theorem dL_law_847 : decode cL_law 847 = .ok (.iload 4, 2) := by decide +kernel
theorem dL_law_849 : decode cL_law 849 = .ok (.iconst 2, 1) := by decide +kernel
theorem dL_law_850 : decode cL_law 850 = .ok (.iadd, 1) := by decide +kernel
theorem dL_law_851 : decode cL_law 851 = .ok (.iaload, 1) := by decide +kernel
theorem dL_law_852 : decode cL_law 852 = .ok (.invokevirtual 125, 3) := by decide +kernel
theorem dL_law_855 : decode cL_law 855 = .ok (.istore 6, 2) := by decide +kernel
theorem dL_law_857 : decode cL_law 857 = .ok (.aload_n 2, 1) := by decide +kernel
theorem dL_law_858 : decode cL_law 858 = .ok (.invokevirtual 77, 3) := by decide +kernel
theorem dL_law_861 : decode cL_law 861 = .ok (.iload 5, 2) := by decide +kernel
theorem dL_law_863 : decode cL_law 863 = .ok (.if_icmp .eq 5, 3) := by decide +kernel
theorem dL_law_866 : decode cL_law 866 = .ok (.iconst 0, 1) := by decide +kernel
theorem dL_law_867 : decode cL_law 867 = .ok (.ireturn, 1) := by decide +kernel
theorem dL_law_868 : decode cL_law 868 = .ok (.iload 5, 2) := by decide +kernel
theorem dL_law_870 : decode cL_law 870 = .ok (.ifCond .ne 15, 3) := by decide +kernel
theorem dL_law_873 : decode cL_law 873 = .ok (.aload_n 3, 1) := by decide +kernel
theorem dL_law_874 : decode cL_law 874 = .ok (.iconst 0, 1) := by decide +kernel
theorem dL_law_875 : decode cL_law 875 = .ok (.laload, 1) := by decide +kernel
theorem dL_law_876 : decode cL_law 876 = .ok (.iload 6, 2) := by decide +kernel
theorem dL_law_878 : decode cL_law 878 = .ok (.i2l, 1) := by decide +kernel
theorem dL_law_879 : decode cL_law 879 = .ok (.lcmp, 1) := by decide +kernel
theorem dL_law_880 : decode cL_law 880 = .ok (.ifCond .eq 5, 3) := by decide +kernel
theorem dL_law_883 : decode cL_law 883 = .ok (.iconst 0, 1) := by decide +kernel
theorem dL_law_884 : decode cL_law 884 = .ok (.ireturn, 1) := by decide +kernel
theorem dL_law_885 : decode cL_law 885 = .ok (.goto 133, 3) := by decide +kernel
set_option maxHeartbeats 4000000 in
set_option maxRecDepth 100000 in
theorem lw_packet {p : Program} {l : Launch} {e : Env} {R : Room} {s : State} {m : MethodId} {args : Array Value} {below : List Frame} {meth : Method} {c : Code} {D : va_G} {dA : Nat → ClassId} {bs b L : Nat} {xs : Nat → Int32} {x mo o : Option Nat} {Q : State → Prop} (hl : l.stackTraces = false) (C : h_C p m c code 7 s args RL D dA) (hE : h_EY bs s) (hF : 12 ≤ R.frames) (hLo : 464 ≤ R.locals) (hX : va_X b L xs s s.heap) (hbl : b < s.heap.size) (hbs : bs = s.heap.size) {i : Nat} (hi : i + 5 ≤ L) (hL : L ≤ 2560) {σ : HS} {K : HS → Prop} (h : lc_packet xs x mo o i σ K)
    (kk : ∀ τ, K τ → V p l e R s m args below meth c D dA bs 7 Q τ 1018 [(4, .int (nI i)), (3, va_rf o), (2, va_rf mo), (1, va_rf x), (0, va_rf (some b))] []) : V p l e R s m args below meth c D dA bs 7 Q σ 820 [(4, .int (nI i)), (3, va_rf o), (2, va_rf mo), (1, va_rf x), (0, va_rf (some b))] [] := by
  obtain ⟨q, r, σ1, hq, h1, hk, hw, hn⟩ := h
  refine V_aload_n C 3 dL_law_820 rfl rfl ?_
  refine V_aload_n C 4 dL_law_821 rfl rfl ?_
  refine V_iload C 0 dL_law_822 rfl ?_
  refine V_iconst (v := 1) C dL_law_824 (by decide) ?_
  refine V_iadd C dL_law_825 ?_
  rw [lw_a1]
  refine V_sld C hX hbl hbs (j := i + 1) (by omega) (by omega) dL_law_826 ?_
  refine V_aload_n C 4 dL_law_827 rfl rfl ?_
  refine V_iload C 0 dL_law_828 rfl ?_
  refine V_iconst (v := 2) C dL_law_830 (by decide) ?_
  refine V_iadd C dL_law_831 ?_
  rw [lw_a2]
  refine V_sld C hX hbl hbs (j := i + 2) (by omega) (by omega) dL_law_832 ?_
  refine V_aload_n C 1 dL_law_833 rfl rfl ?_
  refine V_cH (As := [va_rf x, .int (xs (i + 1)), .int (xs (i + 2)), va_rf o]) (rest := []) C mh_123 (m_L_packet l hl D dA bs hq h1 hk hw) hE rfl rfl (Nat.le_trans h_w0 (by decide)) (Nat.le_trans (by decide) hF) (Nat.le_trans (by decide) hLo) dL_law_834 (fun k σ2 hp => ?_)
  obtain ⟨q2, hq2, v, σ3, h2, q3, hq3, σ4, h3, h4, hK⟩ := hn k σ2 hp
  refine V_istore (lv' := [(5, .int k), (4, .int (nI i)), (3, va_rf o), (2, va_rf mo), (1, va_rf x), (0, va_rf (some b))]) C dL_law_837 (by decide) rfl ?_
  refine V_aload_n C 3 dL_law_839 rfl rfl ?_
  refine V_aload_n C 5 dL_law_840 rfl rfl ?_
  refine V_iload C 1 dL_law_841 rfl ?_
  refine V_iconst (v := 1) C dL_law_843 (by decide) ?_
  refine V_iadd C dL_law_844 ?_
  rw [lw_a1]
  refine V_sld C hX hbl hbs (j := i + 1) (by omega) (by omega) dL_law_845 ?_
  refine V_aload_n C 5 dL_law_846 rfl rfl ?_
  refine V_iload C 1 dL_law_847 rfl ?_
  refine V_iconst (v := 2) C dL_law_849 (by decide) ?_
  refine V_iadd C dL_law_850 ?_
  rw [lw_a2]
  refine V_sld C hX hbl hbs (j := i + 2) (by omega) (by omega) dL_law_851 ?_
  refine V_cV (As := [.int (xs (i + 1)), .int (xs (i + 2))]) (rest := []) C mv_RL_125 (m_X10_packet l D dA bs h2) hq2 rfl rfl (Nat.le_trans h_w0 (by decide)) (Nat.le_trans (by decide) hF) (Nat.le_trans (by decide) hLo) dL_law_852 ?_
  refine V_istore (lv' := [(6, .int v), (5, .int k), (4, .int (nI i)), (3, va_rf o), (2, va_rf mo), (1, va_rf x), (0, va_rf (some b))]) C dL_law_855 (by decide) rfl ?_
  refine V_aload_n C 4 dL_law_857 rfl rfl ?_
  refine V_cV (As := []) (rest := []) C mv_RL_77 (m_X10_thrown l D dA bs h3) hq3 rfl rfl (Nat.le_trans h_w0 (by decide)) (Nat.le_trans (by decide) hF) (Nat.le_trans (by decide) hLo) dL_law_858 ?_
  refine V_iload C 1 dL_law_861 rfl ?_
  refine V_icmp_eq (tgt := 868) C dL_law_863 (by decide) (fun _ => ?_) (fun g => absurd rfl g)
  refine V_iload C 1 dL_law_868 rfl ?_
  refine V_if_ne (tgt := 885) C dL_law_870 (by decide) (fun g => ?_) (fun g => ?_)
  · refine V_goto (tgt := 1018) C dL_law_885 (by decide) ?_
    exact V_sub [2, 3, 4, 5, 6] rfl (kk σ4 hK)
  refine V_aload_n C 3 dL_law_873 rfl rfl ?_
  refine V_iconst (v := 0) C dL_law_874 (by decide) ?_
  refine V_lald C dL_law_875 (h4 g) ?_
  refine V_iload C 0 dL_law_876 rfl ?_
  refine V_i2l C dL_law_878 ?_
  refine V_lcmp C dL_law_879 ?_
  refine V_if_eq (tgt := 885) C dL_law_880 (by decide) (fun _ => ?_) (fun g => absurd (lg_cmp_self _) g)
  refine V_goto (tgt := 1018) C dL_law_885 (by decide) ?_
  exact V_sub [2, 3, 4, 5, 6] rfl (kk σ4 hK)
theorem dL_law_888 : decode cL_law 888 = .ok (.aload_n 1, 1) := by decide +kernel
theorem dL_law_889 : decode cL_law 889 = .ok (.aload_n 0, 1) := by decide +kernel
theorem dL_law_890 : decode cL_law 890 = .ok (.iload 4, 2) := by decide +kernel
theorem dL_law_892 : decode cL_law 892 = .ok (.iconst 1, 1) := by decide +kernel
theorem dL_law_893 : decode cL_law 893 = .ok (.iadd, 1) := by decide +kernel
theorem dL_law_894 : decode cL_law 894 = .ok (.iaload, 1) := by decide +kernel
theorem dL_law_895 : decode cL_law 895 = .ok (.aload_n 0, 1) := by decide +kernel
theorem dL_law_896 : decode cL_law 896 = .ok (.iload 4, 2) := by decide +kernel
theorem dL_law_898 : decode cL_law 898 = .ok (.iconst 2, 1) := by decide +kernel
theorem dL_law_899 : decode cL_law 899 = .ok (.iadd, 1) := by decide +kernel
theorem dL_law_900 : decode cL_law 900 = .ok (.iaload, 1) := by decide +kernel
theorem dL_law_901 : decode cL_law 901 = .ok (.aload_n 0, 1) := by decide +kernel
theorem dL_law_902 : decode cL_law 902 = .ok (.iload 4, 2) := by decide +kernel
theorem dL_law_904 : decode cL_law 904 = .ok (.iconst 3, 1) := by decide +kernel
theorem dL_law_905 : decode cL_law 905 = .ok (.iadd, 1) := by decide +kernel
theorem dL_law_906 : decode cL_law 906 = .ok (.iaload, 1) := by decide +kernel
theorem dL_law_907 : decode cL_law 907 = .ok (.aload_n 3, 1) := by decide +kernel
theorem dL_law_908 : decode cL_law 908 = .ok (.invokestatic 126, 3) := by decide +kernel
theorem dL_law_911 : decode cL_law 911 = .ok (.istore 5, 2) := by decide +kernel
theorem dL_law_913 : decode cL_law 913 = .ok (.aload_n 2, 1) := by decide +kernel
theorem dL_law_914 : decode cL_law 914 = .ok (.aload_n 0, 1) := by decide +kernel
theorem dL_law_915 : decode cL_law 915 = .ok (.iload 4, 2) := by decide +kernel
theorem dL_law_917 : decode cL_law 917 = .ok (.iconst 1, 1) := by decide +kernel
theorem dL_law_918 : decode cL_law 918 = .ok (.iadd, 1) := by decide +kernel
theorem dL_law_919 : decode cL_law 919 = .ok (.iaload, 1) := by decide +kernel
theorem dL_law_920 : decode cL_law 920 = .ok (.aload_n 0, 1) := by decide +kernel
theorem dL_law_921 : decode cL_law 921 = .ok (.iload 4, 2) := by decide +kernel
theorem dL_law_923 : decode cL_law 923 = .ok (.iconst 2, 1) := by decide +kernel
theorem dL_law_924 : decode cL_law 924 = .ok (.iadd, 1) := by decide +kernel
theorem dL_law_925 : decode cL_law 925 = .ok (.iaload, 1) := by decide +kernel
theorem dL_law_926 : decode cL_law 926 = .ok (.aload_n 0, 1) := by decide +kernel
theorem dL_law_927 : decode cL_law 927 = .ok (.iload 4, 2) := by decide +kernel
theorem dL_law_929 : decode cL_law 929 = .ok (.iconst 3, 1) := by decide +kernel
theorem dL_law_930 : decode cL_law 930 = .ok (.iadd, 1) := by decide +kernel
theorem dL_law_931 : decode cL_law 931 = .ok (.iaload, 1) := by decide +kernel
theorem dL_law_932 : decode cL_law 932 = .ok (.invokevirtual 128, 3) := by decide +kernel
theorem dL_law_935 : decode cL_law 935 = .ok (.istore 6, 2) := by decide +kernel
theorem dL_law_937 : decode cL_law 937 = .ok (.aload_n 2, 1) := by decide +kernel
theorem dL_law_938 : decode cL_law 938 = .ok (.invokevirtual 77, 3) := by decide +kernel
theorem dL_law_941 : decode cL_law 941 = .ok (.iload 5, 2) := by decide +kernel
theorem dL_law_943 : decode cL_law 943 = .ok (.if_icmp .eq 5, 3) := by decide +kernel
theorem dL_law_946 : decode cL_law 946 = .ok (.iconst 0, 1) := by decide +kernel
theorem dL_law_947 : decode cL_law 947 = .ok (.ireturn, 1) := by decide +kernel
theorem dL_law_948 : decode cL_law 948 = .ok (.iload 5, 2) := by decide +kernel
theorem dL_law_950 : decode cL_law 950 = .ok (.ifCond .ne 15, 3) := by decide +kernel
theorem dL_law_953 : decode cL_law 953 = .ok (.aload_n 3, 1) := by decide +kernel
theorem dL_law_954 : decode cL_law 954 = .ok (.iconst 0, 1) := by decide +kernel
theorem dL_law_955 : decode cL_law 955 = .ok (.laload, 1) := by decide +kernel
theorem dL_law_956 : decode cL_law 956 = .ok (.iload 6, 2) := by decide +kernel
theorem dL_law_958 : decode cL_law 958 = .ok (.i2l, 1) := by decide +kernel
theorem dL_law_959 : decode cL_law 959 = .ok (.lcmp, 1) := by decide +kernel
theorem dL_law_960 : decode cL_law 960 = .ok (.ifCond .eq 5, 3) := by decide +kernel
theorem dL_law_963 : decode cL_law 963 = .ok (.iconst 0, 1) := by decide +kernel
theorem dL_law_964 : decode cL_law 964 = .ok (.ireturn, 1) := by decide +kernel
theorem dL_law_965 : decode cL_law 965 = .ok (.goto 53, 3) := by decide +kernel
set_option maxHeartbeats 4000000 in
set_option maxRecDepth 100000 in
theorem lw_note {p : Program} {l : Launch} {e : Env} {R : Room} {s : State} {m : MethodId} {args : Array Value} {below : List Frame} {meth : Method} {c : Code} {D : va_G} {dA : Nat → ClassId} {bs b L : Nat} {xs : Nat → Int32} {x mo o : Option Nat} {Q : State → Prop} (hl : l.stackTraces = false) (C : h_C p m c code 7 s args RL D dA) (hE : h_EY bs s) (hF : 12 ≤ R.frames) (hLo : 464 ≤ R.locals) (hX : va_X b L xs s s.heap) (hbl : b < s.heap.size) (hbs : bs = s.heap.size) {i : Nat} (hi : i + 5 ≤ L) (hL : L ≤ 2560) {σ : HS} {K : HS → Prop} (h : lc_note xs x mo o i σ K)
    (kk : ∀ τ, K τ → V p l e R s m args below meth c D dA bs 7 Q τ 1018 [(4, .int (nI i)), (3, va_rf o), (2, va_rf mo), (1, va_rf x), (0, va_rf (some b))] []) : V p l e R s m args below meth c D dA bs 7 Q σ 888 [(4, .int (nI i)), (3, va_rf o), (2, va_rf mo), (1, va_rf x), (0, va_rf (some b))] [] := by
  obtain ⟨q, r, σ1, hq, h1, hk, hw, hn⟩ := h
  refine V_aload_n C 3 dL_law_888 rfl rfl ?_
  refine V_aload_n C 4 dL_law_889 rfl rfl ?_
  refine V_iload C 0 dL_law_890 rfl ?_
  refine V_iconst (v := 1) C dL_law_892 (by decide) ?_
  refine V_iadd C dL_law_893 ?_
  rw [lw_a1]
  refine V_sld C hX hbl hbs (j := i + 1) (by omega) (by omega) dL_law_894 ?_
  refine V_aload_n C 4 dL_law_895 rfl rfl ?_
  refine V_iload C 0 dL_law_896 rfl ?_
  refine V_iconst (v := 2) C dL_law_898 (by decide) ?_
  refine V_iadd C dL_law_899 ?_
  rw [lw_a2]
  refine V_sld C hX hbl hbs (j := i + 2) (by omega) (by omega) dL_law_900 ?_
  refine V_aload_n C 4 dL_law_901 rfl rfl ?_
  refine V_iload C 0 dL_law_902 rfl ?_
  refine V_iconst (v := 3) C dL_law_904 (by decide) ?_
  refine V_iadd C dL_law_905 ?_
  rw [lw_a3]
  refine V_sld C hX hbl hbs (j := i + 3) (by omega) (by omega) dL_law_906 ?_
  refine V_aload_n C 1 dL_law_907 rfl rfl ?_
  refine V_cH (As := [va_rf x, .int (xs (i + 1)), .int (xs (i + 2)), .int (xs (i + 3)), va_rf o]) (rest := []) C mh_126 (m_L_note l hl D dA bs hq h1 hk hw) hE rfl rfl (Nat.le_trans h_w0 (by decide)) (Nat.le_trans (by decide) hF) (Nat.le_trans (by decide) hLo) dL_law_908 (fun k σ2 hp => ?_)
  obtain ⟨q2, hq2, v, σ3, h2, q3, hq3, σ4, h3, h4, hK⟩ := hn k σ2 hp
  refine V_istore (lv' := [(5, .int k), (4, .int (nI i)), (3, va_rf o), (2, va_rf mo), (1, va_rf x), (0, va_rf (some b))]) C dL_law_911 (by decide) rfl ?_
  refine V_aload_n C 3 dL_law_913 rfl rfl ?_
  refine V_aload_n C 5 dL_law_914 rfl rfl ?_
  refine V_iload C 1 dL_law_915 rfl ?_
  refine V_iconst (v := 1) C dL_law_917 (by decide) ?_
  refine V_iadd C dL_law_918 ?_
  rw [lw_a1]
  refine V_sld C hX hbl hbs (j := i + 1) (by omega) (by omega) dL_law_919 ?_
  refine V_aload_n C 5 dL_law_920 rfl rfl ?_
  refine V_iload C 1 dL_law_921 rfl ?_
  refine V_iconst (v := 2) C dL_law_923 (by decide) ?_
  refine V_iadd C dL_law_924 ?_
  rw [lw_a2]
  refine V_sld C hX hbl hbs (j := i + 2) (by omega) (by omega) dL_law_925 ?_
  refine V_aload_n C 5 dL_law_926 rfl rfl ?_
  refine V_iload C 1 dL_law_927 rfl ?_
  refine V_iconst (v := 3) C dL_law_929 (by decide) ?_
  refine V_iadd C dL_law_930 ?_
  rw [lw_a3]
  refine V_sld C hX hbl hbs (j := i + 3) (by omega) (by omega) dL_law_931 ?_
  refine V_cV (As := [.int (xs (i + 1)), .int (xs (i + 2)), .int (xs (i + 3))]) (rest := []) C mv_RL_128 (m_X10_note l D dA bs h2) hq2 rfl rfl (Nat.le_trans h_w0 (by decide)) (Nat.le_trans (by decide) hF) (Nat.le_trans (by decide) hLo) dL_law_932 ?_
  refine V_istore (lv' := [(6, .int v), (5, .int k), (4, .int (nI i)), (3, va_rf o), (2, va_rf mo), (1, va_rf x), (0, va_rf (some b))]) C dL_law_935 (by decide) rfl ?_
  refine V_aload_n C 4 dL_law_937 rfl rfl ?_
  refine V_cV (As := []) (rest := []) C mv_RL_77 (m_X10_thrown l D dA bs h3) hq3 rfl rfl (Nat.le_trans h_w0 (by decide)) (Nat.le_trans (by decide) hF) (Nat.le_trans (by decide) hLo) dL_law_938 ?_
  refine V_iload C 1 dL_law_941 rfl ?_
  refine V_icmp_eq (tgt := 948) C dL_law_943 (by decide) (fun _ => ?_) (fun g => absurd rfl g)
  refine V_iload C 1 dL_law_948 rfl ?_
  refine V_if_ne (tgt := 965) C dL_law_950 (by decide) (fun g => ?_) (fun g => ?_)
  · refine V_goto (tgt := 1018) C dL_law_965 (by decide) ?_
    exact V_sub [2, 3, 4, 5, 6] rfl (kk σ4 hK)
  refine V_aload_n C 3 dL_law_953 rfl rfl ?_
  refine V_iconst (v := 0) C dL_law_954 (by decide) ?_
  refine V_lald C dL_law_955 (h4 g) ?_
  refine V_iload C 0 dL_law_956 rfl ?_
  refine V_i2l C dL_law_958 ?_
  refine V_lcmp C dL_law_959 ?_
  refine V_if_eq (tgt := 965) C dL_law_960 (by decide) (fun _ => ?_) (fun g => absurd (lg_cmp_self _) g)
  refine V_goto (tgt := 1018) C dL_law_965 (by decide) ?_
  exact V_sub [2, 3, 4, 5, 6] rfl (kk σ4 hK)
theorem dL_law_968 : decode cL_law 968 = .ok (.aload_n 1, 1) := by decide +kernel
theorem dL_law_969 : decode cL_law 969 = .ok (.aload_n 0, 1) := by decide +kernel
theorem dL_law_970 : decode cL_law 970 = .ok (.iload 4, 2) := by decide +kernel
theorem dL_law_972 : decode cL_law 972 = .ok (.iconst 1, 1) := by decide +kernel
theorem dL_law_973 : decode cL_law 973 = .ok (.iadd, 1) := by decide +kernel
theorem dL_law_974 : decode cL_law 974 = .ok (.iaload, 1) := by decide +kernel
theorem dL_law_975 : decode cL_law 975 = .ok (.invokevirtual 129, 3) := by decide +kernel
theorem dL_law_978 : decode cL_law 978 = .ok (.aload_n 2, 1) := by decide +kernel
theorem dL_law_979 : decode cL_law 979 = .ok (.aload_n 0, 1) := by decide +kernel
theorem dL_law_980 : decode cL_law 980 = .ok (.iload 4, 2) := by decide +kernel
theorem dL_law_982 : decode cL_law 982 = .ok (.iconst 1, 1) := by decide +kernel
theorem dL_law_983 : decode cL_law 983 = .ok (.iadd, 1) := by decide +kernel
theorem dL_law_984 : decode cL_law 984 = .ok (.iaload, 1) := by decide +kernel
theorem dL_law_985 : decode cL_law 985 = .ok (.invokevirtual 132, 3) := by decide +kernel
theorem dL_law_988 : decode cL_law 988 = .ok (.if_icmp .eq 30, 3) := by decide +kernel
set_option maxHeartbeats 4000000 in
set_option maxRecDepth 100000 in
theorem lw_truth {p : Program} {l : Launch} {e : Env} {R : Room} {s : State} {m : MethodId} {args : Array Value} {below : List Frame} {meth : Method} {c : Code} {D : va_G} {dA : Nat → ClassId} {bs b L : Nat} {xs : Nat → Int32} {x mo o : Option Nat} {Q : State → Prop} (hl : l.stackTraces = false) (C : h_C p m c code 7 s args RL D dA) (hE : h_EY bs s) (hF : 12 ≤ R.frames) (hLo : 464 ≤ R.locals) (hX : va_X b L xs s s.heap) (hbl : b < s.heap.size) (hbs : bs = s.heap.size) {i : Nat} (hi : i + 5 ≤ L) (hL : L ≤ 2560) {σ : HS} {K : HS → Prop} (h : lc_truth xs x mo o i σ K)
    (kk : ∀ τ, K τ → V p l e R s m args below meth c D dA bs 7 Q τ 1018 [(4, .int (nI i)), (3, va_rf o), (2, va_rf mo), (1, va_rf x), (0, va_rf (some b))] []) : V p l e R s m args below meth c D dA bs 7 Q σ 968 [(4, .int (nI i)), (3, va_rf o), (2, va_rf mo), (1, va_rf x), (0, va_rf (some b))] [] := by
  obtain ⟨q, v, σ1, hq, h1, q2, hq2, σ2, h2, hK⟩ := h
  refine V_aload_n C 3 dL_law_968 rfl rfl ?_
  refine V_aload_n C 4 dL_law_969 rfl rfl ?_
  refine V_iload C 0 dL_law_970 rfl ?_
  refine V_iconst (v := 1) C dL_law_972 (by decide) ?_
  refine V_iadd C dL_law_973 ?_
  rw [lw_a1]
  refine V_sld C hX hbl hbs (j := i + 1) (by omega) (by omega) dL_law_974 ?_
  refine V_cV (As := [.int (xs (i + 1))]) (rest := []) C mv_RL_129 (m_X9_truth l D dA bs h1) hq rfl rfl (Nat.le_trans h_w0 (by decide)) (Nat.le_trans (by decide) hF) (Nat.le_trans (by decide) hLo) dL_law_975 ?_
  refine V_aload_n C 2 dL_law_978 rfl rfl ?_
  refine V_aload_n C 4 dL_law_979 rfl rfl ?_
  refine V_iload C 0 dL_law_980 rfl ?_
  refine V_iconst (v := 1) C dL_law_982 (by decide) ?_
  refine V_iadd C dL_law_983 ?_
  rw [lw_a1]
  refine V_sld C hX hbl hbs (j := i + 1) (by omega) (by omega) dL_law_984 ?_
  refine V_cV (As := [.int (xs (i + 1))]) (rest := [.int v]) C mv_RL_132 (m_X10_truth l D dA bs h2) hq2 rfl rfl (Nat.le_trans (h_wI h_w0) (by decide)) (Nat.le_trans (by decide) hF) (Nat.le_trans (by decide) hLo) dL_law_985 ?_
  refine V_icmp_eq (tgt := 1018) C dL_law_988 (by decide) (fun _ => ?_) (fun g => absurd rfl g)
  exact V_sub [0, 1, 2, 3, 4] rfl (kk σ2 hK)
theorem dL_law_993 : decode cL_law 993 = .ok (.aload_n 1, 1) := by decide +kernel
theorem dL_law_994 : decode cL_law 994 = .ok (.aload_n 0, 1) := by decide +kernel
theorem dL_law_995 : decode cL_law 995 = .ok (.iload 4, 2) := by decide +kernel
theorem dL_law_997 : decode cL_law 997 = .ok (.iconst 1, 1) := by decide +kernel
theorem dL_law_998 : decode cL_law 998 = .ok (.iadd, 1) := by decide +kernel
theorem dL_law_999 : decode cL_law 999 = .ok (.iaload, 1) := by decide +kernel
theorem dL_law_1000 : decode cL_law 1000 = .ok (.invokevirtual 133, 3) := by decide +kernel
theorem dL_law_1003 : decode cL_law 1003 = .ok (.aload_n 2, 1) := by decide +kernel
theorem dL_law_1004 : decode cL_law 1004 = .ok (.aload_n 0, 1) := by decide +kernel
theorem dL_law_1005 : decode cL_law 1005 = .ok (.iload 4, 2) := by decide +kernel
theorem dL_law_1007 : decode cL_law 1007 = .ok (.iconst 1, 1) := by decide +kernel
theorem dL_law_1008 : decode cL_law 1008 = .ok (.iadd, 1) := by decide +kernel
theorem dL_law_1009 : decode cL_law 1009 = .ok (.iaload, 1) := by decide +kernel
theorem dL_law_1010 : decode cL_law 1010 = .ok (.invokevirtual 136, 3) := by decide +kernel
theorem dL_law_1013 : decode cL_law 1013 = .ok (.if_icmp .eq 5, 3) := by decide +kernel
set_option maxHeartbeats 4000000 in
set_option maxRecDepth 100000 in
theorem lw_count {p : Program} {l : Launch} {e : Env} {R : Room} {s : State} {m : MethodId} {args : Array Value} {below : List Frame} {meth : Method} {c : Code} {D : va_G} {dA : Nat → ClassId} {bs b L : Nat} {xs : Nat → Int32} {x mo o : Option Nat} {Q : State → Prop} (hl : l.stackTraces = false) (C : h_C p m c code 7 s args RL D dA) (hE : h_EY bs s) (hF : 12 ≤ R.frames) (hLo : 464 ≤ R.locals) (hX : va_X b L xs s s.heap) (hbl : b < s.heap.size) (hbs : bs = s.heap.size) {i : Nat} (hi : i + 5 ≤ L) (hL : L ≤ 2560) {σ : HS} {K : HS → Prop} (h : lc_count xs x mo o i σ K)
    (kk : ∀ τ, K τ → V p l e R s m args below meth c D dA bs 7 Q τ 1018 [(4, .int (nI i)), (3, va_rf o), (2, va_rf mo), (1, va_rf x), (0, va_rf (some b))] []) : V p l e R s m args below meth c D dA bs 7 Q σ 993 [(4, .int (nI i)), (3, va_rf o), (2, va_rf mo), (1, va_rf x), (0, va_rf (some b))] [] := by
  obtain ⟨q, v, σ1, hq, h1, q2, hq2, σ2, h2, hK⟩ := h
  refine V_aload_n C 3 dL_law_993 rfl rfl ?_
  refine V_aload_n C 4 dL_law_994 rfl rfl ?_
  refine V_iload C 0 dL_law_995 rfl ?_
  refine V_iconst (v := 1) C dL_law_997 (by decide) ?_
  refine V_iadd C dL_law_998 ?_
  rw [lw_a1]
  refine V_sld C hX hbl hbs (j := i + 1) (by omega) (by omega) dL_law_999 ?_
  refine V_cV (As := [.int (xs (i + 1))]) (rest := []) C mv_RL_133 (m_X9_count l D dA bs h1) hq rfl rfl (Nat.le_trans h_w0 (by decide)) (Nat.le_trans (by decide) hF) (Nat.le_trans (by decide) hLo) dL_law_1000 ?_
  refine V_aload_n C 2 dL_law_1003 rfl rfl ?_
  refine V_aload_n C 4 dL_law_1004 rfl rfl ?_
  refine V_iload C 0 dL_law_1005 rfl ?_
  refine V_iconst (v := 1) C dL_law_1007 (by decide) ?_
  refine V_iadd C dL_law_1008 ?_
  rw [lw_a1]
  refine V_sld C hX hbl hbs (j := i + 1) (by omega) (by omega) dL_law_1009 ?_
  refine V_cV (As := [.int (xs (i + 1))]) (rest := [.int v]) C mv_RL_136 (m_X10_count l D dA bs h2) hq2 rfl rfl (Nat.le_trans (h_wI h_w0) (by decide)) (Nat.le_trans (by decide) hF) (Nat.le_trans (by decide) hLo) dL_law_1010 ?_
  refine V_icmp_eq (tgt := 1018) C dL_law_1013 (by decide) (fun _ => ?_) (fun g => absurd rfl g)
  exact V_sub [0, 1, 2, 3, 4] rfl (kk σ2 hK)
