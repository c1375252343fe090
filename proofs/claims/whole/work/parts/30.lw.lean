/-! words and facts for the law -/
theorem wd803 : Cond.methodLink "FuseBoxLaw" 13 yX11_row ∈ WL := mem_WL (t2_in (List.mem_of_getElem? (i := 34) rfl)) rfl
theorem wd804 : Cond.instanceMethod yX11_row ∈ WL := mem_WL (t2_in (List.mem_of_getElem? (i := 35) rfl)) rfl
theorem wd805 : Cond.selects "FuseBox" yX11_row yX11_row ∈ WL := mem_WL (t2_in (List.mem_of_getElem? (i := 36) rfl)) rfl
theorem wd806 : Cond.code yX11_row cX11_row 4 (some .int) ∈ WL := mem_WL (t2_in (List.mem_of_getElem? (i := 37) rfl)) rfl
theorem wd807 : Cond.methodLink "FuseBoxLaw" 17 yX12_row ∈ WL := mem_WL (t4_in (List.mem_of_getElem? (i := 191) rfl)) rfl
theorem wd808 : Cond.instanceMethod yX12_row ∈ WL := mem_WL (t4_in (List.mem_of_getElem? (i := 192) rfl)) rfl
theorem wd809 : Cond.selects "FuseBoxModel" yX12_row yX12_row ∈ WL := mem_WL (t4_in (List.mem_of_getElem? (i := 193) rfl)) rfl
theorem wd810 : Cond.code yX12_row cX12_row 5 (some .int) ∈ WL := mem_WL (t4_in (List.mem_of_getElem? (i := 194) rfl)) rfl
theorem wd811 : Cond.methodLink "FuseBoxLaw" 18 yX11_set ∈ WL := mem_WL (t2_in (List.mem_of_getElem? (i := 55) rfl)) rfl
theorem wd812 : Cond.instanceMethod yX11_set ∈ WL := mem_WL (t2_in (List.mem_of_getElem? (i := 56) rfl)) rfl
theorem wd813 : Cond.selects "FuseBox" yX11_set yX11_set ∈ WL := mem_WL (t2_in (List.mem_of_getElem? (i := 57) rfl)) rfl
theorem wd814 : Cond.code yX11_set cX11_set 5 (some .int) ∈ WL := mem_WL (t2_in (List.mem_of_getElem? (i := 58) rfl)) rfl
theorem wd815 : Cond.methodLink "FuseBoxLaw" 21 yX12_set ∈ WL := mem_WL (t4_in (List.mem_of_getElem? (i := 210) rfl)) rfl
theorem wd816 : Cond.instanceMethod yX12_set ∈ WL := mem_WL (t4_in (List.mem_of_getElem? (i := 211) rfl)) rfl
theorem wd817 : Cond.selects "FuseBoxModel" yX12_set yX12_set ∈ WL := mem_WL (t4_in (List.mem_of_getElem? (i := 212) rfl)) rfl
theorem wd818 : Cond.code yX12_set cX12_set 4 (some .int) ∈ WL := mem_WL (t4_in (List.mem_of_getElem? (i := 213) rfl)) rfl
theorem wd819 : Cond.methodLink "FuseBoxLaw" 22 yX11_copy ∈ WL := mem_WL (t2_in (List.mem_of_getElem? (i := 71) rfl)) rfl
theorem wd820 : Cond.instanceMethod yX11_copy ∈ WL := mem_WL (t2_in (List.mem_of_getElem? (i := 72) rfl)) rfl
theorem wd821 : Cond.selects "FuseBox" yX11_copy yX11_copy ∈ WL := mem_WL (t2_in (List.mem_of_getElem? (i := 73) rfl)) rfl
theorem wd822 : Cond.code yX11_copy cX11_copy 8 (some .int) ∈ WL := mem_WL (t2_in (List.mem_of_getElem? (i := 74) rfl)) rfl
theorem wd823 : Cond.methodLink "FuseBoxLaw" 26 yX12_copy ∈ WL := mem_WL (t4_in (List.mem_of_getElem? (i := 214) rfl)) rfl
theorem wd824 : Cond.instanceMethod yX12_copy ∈ WL := mem_WL (t4_in (List.mem_of_getElem? (i := 215) rfl)) rfl
theorem wd825 : Cond.selects "FuseBoxModel" yX12_copy yX12_copy ∈ WL := mem_WL (t4_in (List.mem_of_getElem? (i := 216) rfl)) rfl
theorem wd826 : Cond.code yX12_copy cX12_copy 7 (some .int) ∈ WL := mem_WL (t4_in (List.mem_of_getElem? (i := 217) rfl)) rfl
theorem wd827 : Cond.methodLink "FuseBoxLaw" 27 yX11_drop ∈ WL := mem_WL (t2_in (List.mem_of_getElem? (i := 78) rfl)) rfl
theorem wd828 : Cond.instanceMethod yX11_drop ∈ WL := mem_WL (t2_in (List.mem_of_getElem? (i := 79) rfl)) rfl
theorem wd829 : Cond.selects "FuseBox" yX11_drop yX11_drop ∈ WL := mem_WL (t2_in (List.mem_of_getElem? (i := 80) rfl)) rfl
theorem wd830 : Cond.code yX11_drop cX11_drop 4 (some .int) ∈ WL := mem_WL (t2_in (List.mem_of_getElem? (i := 81) rfl)) rfl
theorem wd831 : Cond.methodLink "FuseBoxLaw" 31 yX12_drop ∈ WL := mem_WL (t4_in (List.mem_of_getElem? (i := 218) rfl)) rfl
theorem wd832 : Cond.instanceMethod yX12_drop ∈ WL := mem_WL (t4_in (List.mem_of_getElem? (i := 219) rfl)) rfl
theorem wd833 : Cond.selects "FuseBoxModel" yX12_drop yX12_drop ∈ WL := mem_WL (t4_in (List.mem_of_getElem? (i := 220) rfl)) rfl
theorem wd834 : Cond.code yX12_drop cX12_drop 3 (some .int) ∈ WL := mem_WL (t4_in (List.mem_of_getElem? (i := 221) rfl)) rfl
theorem wd835 : Cond.methodLink "FuseBoxLaw" 32 yX11_feed ∈ WL := mem_WL (t2_in (List.mem_of_getElem? (i := 86) rfl)) rfl
theorem wd836 : Cond.instanceMethod yX11_feed ∈ WL := mem_WL (t2_in (List.mem_of_getElem? (i := 87) rfl)) rfl
theorem wd837 : Cond.selects "FuseBox" yX11_feed yX11_feed ∈ WL := mem_WL (t2_in (List.mem_of_getElem? (i := 88) rfl)) rfl
theorem wd838 : Cond.code yX11_feed cX11_feed 2 (some .int) ∈ WL := mem_WL (t2_in (List.mem_of_getElem? (i := 89) rfl)) rfl
theorem wd839 : Cond.methodLink "FuseBoxLaw" 35 yX12_feed ∈ WL := mem_WL (t4_in (List.mem_of_getElem? (i := 222) rfl)) rfl
theorem wd840 : Cond.instanceMethod yX12_feed ∈ WL := mem_WL (t4_in (List.mem_of_getElem? (i := 223) rfl)) rfl
theorem wd841 : Cond.selects "FuseBoxModel" yX12_feed yX12_feed ∈ WL := mem_WL (t4_in (List.mem_of_getElem? (i := 224) rfl)) rfl
theorem wd842 : Cond.code yX12_feed cX12_feed 2 (some .int) ∈ WL := mem_WL (t4_in (List.mem_of_getElem? (i := 225) rfl)) rfl
theorem wd843 : Cond.methodLink "FuseBoxLaw" 36 yX11_house ∈ WL := mem_WL (t2_in (List.mem_of_getElem? (i := 95) rfl)) rfl
theorem wd844 : Cond.instanceMethod yX11_house ∈ WL := mem_WL (t2_in (List.mem_of_getElem? (i := 96) rfl)) rfl
theorem wd845 : Cond.selects "FuseBox" yX11_house yX11_house ∈ WL := mem_WL (t2_in (List.mem_of_getElem? (i := 97) rfl)) rfl
theorem wd846 : Cond.code yX11_house cX11_house 2 (some .int) ∈ WL := mem_WL (t2_in (List.mem_of_getElem? (i := 98) rfl)) rfl
theorem wd847 : Cond.methodLink "FuseBoxLaw" 40 yX12_house ∈ WL := mem_WL (t4_in (List.mem_of_getElem? (i := 228) rfl)) rfl
theorem wd848 : Cond.instanceMethod yX12_house ∈ WL := mem_WL (t4_in (List.mem_of_getElem? (i := 229) rfl)) rfl
theorem wd849 : Cond.selects "FuseBoxModel" yX12_house yX12_house ∈ WL := mem_WL (t4_in (List.mem_of_getElem? (i := 230) rfl)) rfl
theorem wd850 : Cond.code yX12_house cX12_house 2 (some .int) ∈ WL := mem_WL (t4_in (List.mem_of_getElem? (i := 231) rfl)) rfl
theorem wd851 : Cond.methodLink "FuseBoxLaw" 41 yX11_fault ∈ WL := mem_WL (t2_in (List.mem_of_getElem? (i := 164) rfl)) rfl
theorem wd852 : Cond.instanceMethod yX11_fault ∈ WL := mem_WL (t2_in (List.mem_of_getElem? (i := 165) rfl)) rfl
theorem wd853 : Cond.selects "FuseBox" yX11_fault yX11_fault ∈ WL := mem_WL (t2_in (List.mem_of_getElem? (i := 166) rfl)) rfl
theorem wd854 : Cond.code yX11_fault cX11_fault 1 (some .int) ∈ WL := mem_WL (t2_in (List.mem_of_getElem? (i := 167) rfl)) rfl
theorem wd855 : Cond.methodLink "FuseBoxLaw" 44 yX12_fault ∈ WL := mem_WL (t5_in (List.mem_of_getElem? (i := 28) rfl)) rfl
theorem wd856 : Cond.instanceMethod yX12_fault ∈ WL := mem_WL (t5_in (List.mem_of_getElem? (i := 29) rfl)) rfl
theorem wd857 : Cond.selects "FuseBoxModel" yX12_fault yX12_fault ∈ WL := mem_WL (t5_in (List.mem_of_getElem? (i := 30) rfl)) rfl
theorem wd858 : Cond.code yX12_fault cX12_fault 1 (some .int) ∈ WL := mem_WL (t5_in (List.mem_of_getElem? (i := 31) rfl)) rfl
theorem wd859 : Cond.methodLink "FuseBoxLaw" 45 yX11_minutes ∈ WL := mem_WL (t2_in (List.mem_of_getElem? (i := 168) rfl)) rfl
theorem wd860 : Cond.instanceMethod yX11_minutes ∈ WL := mem_WL (t2_in (List.mem_of_getElem? (i := 169) rfl)) rfl
theorem wd861 : Cond.selects "FuseBox" yX11_minutes yX11_minutes ∈ WL := mem_WL (t2_in (List.mem_of_getElem? (i := 170) rfl)) rfl
theorem wd862 : Cond.code yX11_minutes cX11_minutes 3 (some .int) ∈ WL := mem_WL (t2_in (List.mem_of_getElem? (i := 171) rfl)) rfl
theorem wd863 : Cond.methodLink "FuseBoxLaw" 48 yX12_minutes ∈ WL := mem_WL (t5_in (List.mem_of_getElem? (i := 32) rfl)) rfl
theorem wd864 : Cond.instanceMethod yX12_minutes ∈ WL := mem_WL (t5_in (List.mem_of_getElem? (i := 33) rfl)) rfl
theorem wd865 : Cond.selects "FuseBoxModel" yX12_minutes yX12_minutes ∈ WL := mem_WL (t5_in (List.mem_of_getElem? (i := 34) rfl)) rfl
theorem wd866 : Cond.code yX12_minutes cX12_minutes 3 (some .int) ∈ WL := mem_WL (t5_in (List.mem_of_getElem? (i := 35) rfl)) rfl
theorem wd867 : Cond.methodLink "FuseBoxLaw" 49 yX11_turn ∈ WL := mem_WL (t3_in (List.mem_of_getElem? (i := 30) rfl)) rfl
theorem wd868 : Cond.instanceMethod yX11_turn ∈ WL := mem_WL (t3_in (List.mem_of_getElem? (i := 31) rfl)) rfl
theorem wd869 : Cond.selects "FuseBox" yX11_turn yX11_turn ∈ WL := mem_WL (t3_in (List.mem_of_getElem? (i := 32) rfl)) rfl
theorem wd870 : Cond.code yX11_turn cX11_turn 3 (some .int) ∈ WL := mem_WL (t3_in (List.mem_of_getElem? (i := 33) rfl)) rfl
theorem wd871 : Cond.methodLink "FuseBoxLaw" 53 yX12_turn ∈ WL := mem_WL (t5_in (List.mem_of_getElem? (i := 85) rfl)) rfl
theorem wd872 : Cond.instanceMethod yX12_turn ∈ WL := mem_WL (t5_in (List.mem_of_getElem? (i := 86) rfl)) rfl
theorem wd873 : Cond.selects "FuseBoxModel" yX12_turn yX12_turn ∈ WL := mem_WL (t5_in (List.mem_of_getElem? (i := 87) rfl)) rfl
theorem wd874 : Cond.code yX12_turn cX12_turn 3 (some .int) ∈ WL := mem_WL (t5_in (List.mem_of_getElem? (i := 88) rfl)) rfl
theorem wd875 : Cond.methodLink "FuseBoxLaw" 54 yX11_plug ∈ WL := mem_WL (t3_in (List.mem_of_getElem? (i := 47) rfl)) rfl
theorem wd876 : Cond.instanceMethod yX11_plug ∈ WL := mem_WL (t3_in (List.mem_of_getElem? (i := 48) rfl)) rfl
theorem wd877 : Cond.selects "FuseBox" yX11_plug yX11_plug ∈ WL := mem_WL (t3_in (List.mem_of_getElem? (i := 49) rfl)) rfl
theorem wd878 : Cond.code yX11_plug cX11_plug 4 (some .int) ∈ WL := mem_WL (t3_in (List.mem_of_getElem? (i := 50) rfl)) rfl
theorem wd879 : Cond.methodLink "FuseBoxLaw" 57 yX12_plug ∈ WL := mem_WL (t5_in (List.mem_of_getElem? (i := 97) rfl)) rfl
theorem wd880 : Cond.instanceMethod yX12_plug ∈ WL := mem_WL (t5_in (List.mem_of_getElem? (i := 98) rfl)) rfl
theorem wd881 : Cond.selects "FuseBoxModel" yX12_plug yX12_plug ∈ WL := mem_WL (t5_in (List.mem_of_getElem? (i := 99) rfl)) rfl
theorem wd882 : Cond.code yX12_plug cX12_plug 4 (some .int) ∈ WL := mem_WL (t5_in (List.mem_of_getElem? (i := 100) rfl)) rfl
theorem wd883 : Cond.methodLink "FuseBoxLaw" 58 yX11_mend ∈ WL := mem_WL (t3_in (List.mem_of_getElem? (i := 55) rfl)) rfl
theorem wd884 : Cond.instanceMethod yX11_mend ∈ WL := mem_WL (t3_in (List.mem_of_getElem? (i := 56) rfl)) rfl
theorem wd885 : Cond.selects "FuseBox" yX11_mend yX11_mend ∈ WL := mem_WL (t3_in (List.mem_of_getElem? (i := 57) rfl)) rfl
theorem wd886 : Cond.code yX11_mend cX11_mend 2 (some .int) ∈ WL := mem_WL (t3_in (List.mem_of_getElem? (i := 58) rfl)) rfl
theorem wd887 : Cond.methodLink "FuseBoxLaw" 61 yX12_mend ∈ WL := mem_WL (t5_in (List.mem_of_getElem? (i := 105) rfl)) rfl
theorem wd888 : Cond.instanceMethod yX12_mend ∈ WL := mem_WL (t5_in (List.mem_of_getElem? (i := 106) rfl)) rfl
theorem wd889 : Cond.selects "FuseBoxModel" yX12_mend yX12_mend ∈ WL := mem_WL (t5_in (List.mem_of_getElem? (i := 107) rfl)) rfl
theorem wd890 : Cond.code yX12_mend cX12_mend 2 (some .int) ∈ WL := mem_WL (t5_in (List.mem_of_getElem? (i := 108) rfl)) rfl
theorem wd891 : Cond.methodLink "FuseBoxLaw" 62 yX11_mains ∈ WL := mem_WL (t3_in (List.mem_of_getElem? (i := 68) rfl)) rfl
theorem wd892 : Cond.instanceMethod yX11_mains ∈ WL := mem_WL (t3_in (List.mem_of_getElem? (i := 69) rfl)) rfl
theorem wd893 : Cond.selects "FuseBox" yX11_mains yX11_mains ∈ WL := mem_WL (t3_in (List.mem_of_getElem? (i := 70) rfl)) rfl
theorem wd894 : Cond.code yX11_mains cX11_mains 1 (some .int) ∈ WL := mem_WL (t3_in (List.mem_of_getElem? (i := 71) rfl)) rfl
theorem wd895 : Cond.methodLink "FuseBoxLaw" 65 yX12_mains ∈ WL := mem_WL (t5_in (List.mem_of_getElem? (i := 117) rfl)) rfl
theorem wd896 : Cond.instanceMethod yX12_mains ∈ WL := mem_WL (t5_in (List.mem_of_getElem? (i := 118) rfl)) rfl
theorem wd897 : Cond.selects "FuseBoxModel" yX12_mains yX12_mains ∈ WL := mem_WL (t5_in (List.mem_of_getElem? (i := 119) rfl)) rfl
theorem wd898 : Cond.code yX12_mains cX12_mains 1 (some .int) ∈ WL := mem_WL (t5_in (List.mem_of_getElem? (i := 120) rfl)) rfl
theorem wd899 : Cond.methodLink "FuseBoxLaw" 66 yX11_rate ∈ WL := mem_WL (t3_in (List.mem_of_getElem? (i := 72) rfl)) rfl
theorem wd900 : Cond.instanceMethod yX11_rate ∈ WL := mem_WL (t3_in (List.mem_of_getElem? (i := 73) rfl)) rfl
theorem wd901 : Cond.selects "FuseBox" yX11_rate yX11_rate ∈ WL := mem_WL (t3_in (List.mem_of_getElem? (i := 74) rfl)) rfl
theorem wd902 : Cond.code yX11_rate cX11_rate 4 (some .int) ∈ WL := mem_WL (t3_in (List.mem_of_getElem? (i := 75) rfl)) rfl
theorem wd903 : Cond.methodLink "FuseBoxLaw" 69 yX12_rate ∈ WL := mem_WL (t5_in (List.mem_of_getElem? (i := 121) rfl)) rfl
theorem wd904 : Cond.instanceMethod yX12_rate ∈ WL := mem_WL (t5_in (List.mem_of_getElem? (i := 122) rfl)) rfl
theorem wd905 : Cond.selects "FuseBoxModel" yX12_rate yX12_rate ∈ WL := mem_WL (t5_in (List.mem_of_getElem? (i := 123) rfl)) rfl
theorem wd906 : Cond.code yX12_rate cX12_rate 4 (some .int) ∈ WL := mem_WL (t5_in (List.mem_of_getElem? (i := 124) rfl)) rfl
theorem wd907 : Cond.methodLink "FuseBoxLaw" 70 yX11_undo ∈ WL := mem_WL (t3_in (List.mem_of_getElem? (i := 76) rfl)) rfl
theorem wd908 : Cond.instanceMethod yX11_undo ∈ WL := mem_WL (t3_in (List.mem_of_getElem? (i := 77) rfl)) rfl
theorem wd909 : Cond.selects "FuseBox" yX11_undo yX11_undo ∈ WL := mem_WL (t3_in (List.mem_of_getElem? (i := 78) rfl)) rfl
theorem wd910 : Cond.code yX11_undo cX11_undo 1 (some .int) ∈ WL := mem_WL (t3_in (List.mem_of_getElem? (i := 79) rfl)) rfl
theorem wd911 : Cond.methodLink "FuseBoxLaw" 73 yX12_undo ∈ WL := mem_WL (t5_in (List.mem_of_getElem? (i := 126) rfl)) rfl
theorem wd912 : Cond.instanceMethod yX12_undo ∈ WL := mem_WL (t5_in (List.mem_of_getElem? (i := 127) rfl)) rfl
theorem wd913 : Cond.selects "FuseBoxModel" yX12_undo yX12_undo ∈ WL := mem_WL (t5_in (List.mem_of_getElem? (i := 128) rfl)) rfl
theorem wd914 : Cond.code yX12_undo cX12_undo 1 (some .int) ∈ WL := mem_WL (t5_in (List.mem_of_getElem? (i := 129) rfl)) rfl
theorem wd915 : Cond.methodLink "FuseBoxLaw" 74 yX11_line ∈ WL := mem_WL (t3_in (List.mem_of_getElem? (i := 80) rfl)) rfl
theorem wd916 : Cond.instanceMethod yX11_line ∈ WL := mem_WL (t3_in (List.mem_of_getElem? (i := 81) rfl)) rfl
theorem wd917 : Cond.selects "FuseBox" yX11_line yX11_line ∈ WL := mem_WL (t3_in (List.mem_of_getElem? (i := 82) rfl)) rfl
theorem wd918 : Cond.code yX11_line cX11_line 3 (some .int) ∈ WL := mem_WL (t3_in (List.mem_of_getElem? (i := 83) rfl)) rfl
theorem wd919 : Cond.methodLink "FuseBoxLaw" 77 yX12_line ∈ WL := mem_WL (t5_in (List.mem_of_getElem? (i := 130) rfl)) rfl
theorem wd920 : Cond.instanceMethod yX12_line ∈ WL := mem_WL (t5_in (List.mem_of_getElem? (i := 131) rfl)) rfl
theorem wd921 : Cond.selects "FuseBoxModel" yX12_line yX12_line ∈ WL := mem_WL (t5_in (List.mem_of_getElem? (i := 132) rfl)) rfl
theorem wd922 : Cond.code yX12_line cX12_line 5 (some .int) ∈ WL := mem_WL (t5_in (List.mem_of_getElem? (i := 133) rfl)) rfl
theorem wd923 : Cond.methodLink "FuseBoxLaw" 78 yX11_thing ∈ WL := mem_WL (t3_in (List.mem_of_getElem? (i := 93) rfl)) rfl
theorem wd924 : Cond.instanceMethod yX11_thing ∈ WL := mem_WL (t3_in (List.mem_of_getElem? (i := 94) rfl)) rfl
theorem wd925 : Cond.selects "FuseBox" yX11_thing yX11_thing ∈ WL := mem_WL (t3_in (List.mem_of_getElem? (i := 95) rfl)) rfl
theorem wd926 : Cond.code yX11_thing cX11_thing 3 (some .int) ∈ WL := mem_WL (t3_in (List.mem_of_getElem? (i := 96) rfl)) rfl
theorem wd927 : Cond.methodLink "FuseBoxLaw" 81 yX12_thing ∈ WL := mem_WL (t5_in (List.mem_of_getElem? (i := 135) rfl)) rfl
theorem wd928 : Cond.instanceMethod yX12_thing ∈ WL := mem_WL (t5_in (List.mem_of_getElem? (i := 136) rfl)) rfl
theorem wd929 : Cond.selects "FuseBoxModel" yX12_thing yX12_thing ∈ WL := mem_WL (t5_in (List.mem_of_getElem? (i := 137) rfl)) rfl
theorem wd930 : Cond.code yX12_thing cX12_thing 3 (some .int) ∈ WL := mem_WL (t5_in (List.mem_of_getElem? (i := 138) rfl)) rfl
theorem wd931 : Cond.methodLink "FuseBoxLaw" 82 yX11_heat ∈ WL := mem_WL (t3_in (List.mem_of_getElem? (i := 98) rfl)) rfl
theorem wd932 : Cond.instanceMethod yX11_heat ∈ WL := mem_WL (t3_in (List.mem_of_getElem? (i := 99) rfl)) rfl
theorem wd933 : Cond.selects "FuseBox" yX11_heat yX11_heat ∈ WL := mem_WL (t3_in (List.mem_of_getElem? (i := 100) rfl)) rfl
theorem wd934 : Cond.code yX11_heat cX11_heat 3 (some .int) ∈ WL := mem_WL (t3_in (List.mem_of_getElem? (i := 101) rfl)) rfl
theorem wd935 : Cond.methodLink "FuseBoxLaw" 85 yX12_heat ∈ WL := mem_WL (t5_in (List.mem_of_getElem? (i := 140) rfl)) rfl
theorem wd936 : Cond.instanceMethod yX12_heat ∈ WL := mem_WL (t5_in (List.mem_of_getElem? (i := 141) rfl)) rfl
theorem wd937 : Cond.selects "FuseBoxModel" yX12_heat yX12_heat ∈ WL := mem_WL (t5_in (List.mem_of_getElem? (i := 142) rfl)) rfl
theorem wd938 : Cond.code yX12_heat cX12_heat 3 (some .int) ∈ WL := mem_WL (t5_in (List.mem_of_getElem? (i := 143) rfl)) rfl
theorem wd939 : Cond.methodLink "FuseBoxLaw" 86 yX11_later ∈ WL := mem_WL (t3_in (List.mem_of_getElem? (i := 106) rfl)) rfl
theorem wd940 : Cond.instanceMethod yX11_later ∈ WL := mem_WL (t3_in (List.mem_of_getElem? (i := 107) rfl)) rfl
theorem wd941 : Cond.selects "FuseBox" yX11_later yX11_later ∈ WL := mem_WL (t3_in (List.mem_of_getElem? (i := 108) rfl)) rfl
theorem wd942 : Cond.code yX11_later cX11_later 3 (some .int) ∈ WL := mem_WL (t3_in (List.mem_of_getElem? (i := 109) rfl)) rfl
theorem wd943 : Cond.methodLink "FuseBoxLaw" 89 yX12_later ∈ WL := mem_WL (t5_in (List.mem_of_getElem? (i := 149) rfl)) rfl
theorem wd944 : Cond.instanceMethod yX12_later ∈ WL := mem_WL (t5_in (List.mem_of_getElem? (i := 150) rfl)) rfl
theorem wd945 : Cond.selects "FuseBoxModel" yX12_later yX12_later ∈ WL := mem_WL (t5_in (List.mem_of_getElem? (i := 151) rfl)) rfl
theorem wd946 : Cond.code yX12_later cX12_later 3 (some .int) ∈ WL := mem_WL (t5_in (List.mem_of_getElem? (i := 152) rfl)) rfl
theorem wd947 : Cond.methodLink "FuseBoxLaw" 90 yX11_lost ∈ WL := mem_WL (t3_in (List.mem_of_getElem? (i := 110) rfl)) rfl
theorem wd948 : Cond.instanceMethod yX11_lost ∈ WL := mem_WL (t3_in (List.mem_of_getElem? (i := 111) rfl)) rfl
theorem wd949 : Cond.selects "FuseBox" yX11_lost yX11_lost ∈ WL := mem_WL (t3_in (List.mem_of_getElem? (i := 112) rfl)) rfl
theorem wd950 : Cond.code yX11_lost cX11_lost 3 (some .int) ∈ WL := mem_WL (t3_in (List.mem_of_getElem? (i := 113) rfl)) rfl
theorem wd951 : Cond.methodLink "FuseBoxLaw" 93 yX12_lost ∈ WL := mem_WL (t5_in (List.mem_of_getElem? (i := 153) rfl)) rfl
theorem wd952 : Cond.instanceMethod yX12_lost ∈ WL := mem_WL (t5_in (List.mem_of_getElem? (i := 154) rfl)) rfl
theorem wd953 : Cond.selects "FuseBoxModel" yX12_lost yX12_lost ∈ WL := mem_WL (t5_in (List.mem_of_getElem? (i := 155) rfl)) rfl
theorem wd954 : Cond.code yX12_lost cX12_lost 3 (some .int) ∈ WL := mem_WL (t5_in (List.mem_of_getElem? (i := 156) rfl)) rfl
theorem wd955 : Cond.methodLink "FuseBoxLaw" 94 yX11_dark ∈ WL := mem_WL (t3_in (List.mem_of_getElem? (i := 115) rfl)) rfl
theorem wd956 : Cond.instanceMethod yX11_dark ∈ WL := mem_WL (t3_in (List.mem_of_getElem? (i := 116) rfl)) rfl
theorem wd957 : Cond.selects "FuseBox" yX11_dark yX11_dark ∈ WL := mem_WL (t3_in (List.mem_of_getElem? (i := 117) rfl)) rfl
theorem wd958 : Cond.code yX11_dark cX11_dark 2 (some .int) ∈ WL := mem_WL (t3_in (List.mem_of_getElem? (i := 118) rfl)) rfl
theorem wd959 : Cond.methodLink "FuseBoxLaw" 97 yX12_dark ∈ WL := mem_WL (t5_in (List.mem_of_getElem? (i := 158) rfl)) rfl
theorem wd960 : Cond.instanceMethod yX12_dark ∈ WL := mem_WL (t5_in (List.mem_of_getElem? (i := 159) rfl)) rfl
theorem wd961 : Cond.selects "FuseBoxModel" yX12_dark yX12_dark ∈ WL := mem_WL (t5_in (List.mem_of_getElem? (i := 160) rfl)) rfl
theorem wd962 : Cond.code yX12_dark cX12_dark 2 (some .int) ∈ WL := mem_WL (t5_in (List.mem_of_getElem? (i := 161) rfl)) rfl
theorem wd963 : Cond.methodLink "FuseBoxLaw" 98 yX11_shed ∈ WL := mem_WL (t3_in (List.mem_of_getElem? (i := 119) rfl)) rfl
theorem wd964 : Cond.instanceMethod yX11_shed ∈ WL := mem_WL (t3_in (List.mem_of_getElem? (i := 120) rfl)) rfl
theorem wd965 : Cond.selects "FuseBox" yX11_shed yX11_shed ∈ WL := mem_WL (t3_in (List.mem_of_getElem? (i := 121) rfl)) rfl
theorem wd966 : Cond.code yX11_shed cX11_shed 8 (some .int) ∈ WL := mem_WL (t3_in (List.mem_of_getElem? (i := 122) rfl)) rfl
theorem wd967 : Cond.methodLink "FuseBoxLaw" 101 yX12_shed ∈ WL := mem_WL (t5_in (List.mem_of_getElem? (i := 162) rfl)) rfl
theorem wd968 : Cond.instanceMethod yX12_shed ∈ WL := mem_WL (t5_in (List.mem_of_getElem? (i := 163) rfl)) rfl
theorem wd969 : Cond.selects "FuseBoxModel" yX12_shed yX12_shed ∈ WL := mem_WL (t5_in (List.mem_of_getElem? (i := 164) rfl)) rfl
theorem wd970 : Cond.code yX12_shed cX12_shed 8 (some .int) ∈ WL := mem_WL (t5_in (List.mem_of_getElem? (i := 165) rfl)) rfl
theorem wd971 : Cond.methodLink "FuseBoxLaw" 102 yX11_plugs ∈ WL := mem_WL (t3_in (List.mem_of_getElem? (i := 133) rfl)) rfl
theorem wd972 : Cond.instanceMethod yX11_plugs ∈ WL := mem_WL (t3_in (List.mem_of_getElem? (i := 134) rfl)) rfl
theorem wd973 : Cond.selects "FuseBox" yX11_plugs yX11_plugs ∈ WL := mem_WL (t3_in (List.mem_of_getElem? (i := 135) rfl)) rfl
theorem wd974 : Cond.code yX11_plugs cX11_plugs 3 (some .int) ∈ WL := mem_WL (t3_in (List.mem_of_getElem? (i := 136) rfl)) rfl
theorem wd975 : Cond.methodLink "FuseBoxLaw" 105 yX12_plugs ∈ WL := mem_WL (t5_in (List.mem_of_getElem? (i := 182) rfl)) rfl
theorem wd976 : Cond.instanceMethod yX12_plugs ∈ WL := mem_WL (t5_in (List.mem_of_getElem? (i := 183) rfl)) rfl
theorem wd977 : Cond.selects "FuseBoxModel" yX12_plugs yX12_plugs ∈ WL := mem_WL (t5_in (List.mem_of_getElem? (i := 184) rfl)) rfl
theorem wd978 : Cond.code yX12_plugs cX12_plugs 8 (some .int) ∈ WL := mem_WL (t5_in (List.mem_of_getElem? (i := 185) rfl)) rfl
theorem wd979 : Cond.methodLink "FuseBoxLaw" 106 yX11_holds ∈ WL := mem_WL (t3_in (List.mem_of_getElem? (i := 176) rfl)) rfl
theorem wd980 : Cond.instanceMethod yX11_holds ∈ WL := mem_WL (t3_in (List.mem_of_getElem? (i := 177) rfl)) rfl
theorem wd981 : Cond.selects "FuseBox" yX11_holds yX11_holds ∈ WL := mem_WL (t3_in (List.mem_of_getElem? (i := 178) rfl)) rfl
theorem wd982 : Cond.code yX11_holds cX11_holds 4 (some .int) ∈ WL := mem_WL (t3_in (List.mem_of_getElem? (i := 179) rfl)) rfl
theorem wd983 : Cond.methodLink "FuseBoxLaw" 109 yX12_holds ∈ WL := mem_WL (t5_in (List.mem_of_getElem? (i := 196) rfl)) rfl
theorem wd984 : Cond.instanceMethod yX12_holds ∈ WL := mem_WL (t5_in (List.mem_of_getElem? (i := 197) rfl)) rfl
theorem wd985 : Cond.selects "FuseBoxModel" yX12_holds yX12_holds ∈ WL := mem_WL (t5_in (List.mem_of_getElem? (i := 198) rfl)) rfl
theorem wd986 : Cond.code yX12_holds cX12_holds 4 (some .int) ∈ WL := mem_WL (t5_in (List.mem_of_getElem? (i := 199) rfl)) rfl
theorem wd987 : Cond.methodLink "FuseBoxLaw" 110 yX11_faulty ∈ WL := mem_WL (t3_in (List.mem_of_getElem? (i := 185) rfl)) rfl
theorem wd988 : Cond.instanceMethod yX11_faulty ∈ WL := mem_WL (t3_in (List.mem_of_getElem? (i := 186) rfl)) rfl
theorem wd989 : Cond.selects "FuseBox" yX11_faulty yX11_faulty ∈ WL := mem_WL (t3_in (List.mem_of_getElem? (i := 187) rfl)) rfl
theorem wd990 : Cond.code yX11_faulty cX11_faulty 5 (some .int) ∈ WL := mem_WL (t3_in (List.mem_of_getElem? (i := 188) rfl)) rfl
theorem wd991 : Cond.methodLink "FuseBoxLaw" 113 yX12_faulty ∈ WL := mem_WL (t5_in (List.mem_of_getElem? (i := 200) rfl)) rfl
theorem wd992 : Cond.instanceMethod yX12_faulty ∈ WL := mem_WL (t5_in (List.mem_of_getElem? (i := 201) rfl)) rfl
theorem wd993 : Cond.selects "FuseBoxModel" yX12_faulty yX12_faulty ∈ WL := mem_WL (t5_in (List.mem_of_getElem? (i := 202) rfl)) rfl
theorem wd994 : Cond.code yX12_faulty cX12_faulty 5 (some .int) ∈ WL := mem_WL (t5_in (List.mem_of_getElem? (i := 203) rfl)) rfl
theorem wd995 : Cond.methodLink "FuseBoxLaw" 114 yX11_bill ∈ WL := mem_WL (t3_in (List.mem_of_getElem? (i := 189) rfl)) rfl
theorem wd996 : Cond.instanceMethod yX11_bill ∈ WL := mem_WL (t3_in (List.mem_of_getElem? (i := 190) rfl)) rfl
theorem wd997 : Cond.selects "FuseBox" yX11_bill yX11_bill ∈ WL := mem_WL (t3_in (List.mem_of_getElem? (i := 191) rfl)) rfl
theorem wd998 : Cond.code yX11_bill cX11_bill 7 (some .int) ∈ WL := mem_WL (t3_in (List.mem_of_getElem? (i := 192) rfl)) rfl
theorem wd999 : Cond.methodLink "FuseBoxLaw" 117 yX12_bill ∈ WL := mem_WL (t5_in (List.mem_of_getElem? (i := 204) rfl)) rfl
theorem wd1000 : Cond.instanceMethod yX12_bill ∈ WL := mem_WL (t5_in (List.mem_of_getElem? (i := 205) rfl)) rfl
theorem wd1001 : Cond.selects "FuseBoxModel" yX12_bill yX12_bill ∈ WL := mem_WL (t5_in (List.mem_of_getElem? (i := 206) rfl)) rfl
theorem wd1002 : Cond.code yX12_bill cX12_bill 7 (some .int) ∈ WL := mem_WL (t5_in (List.mem_of_getElem? (i := 207) rfl)) rfl
theorem wd1003 : Cond.methodLink "FuseBoxLaw" 118 yX11_fits ∈ WL := mem_WL (t3_in (List.mem_of_getElem? (i := 194) rfl)) rfl
theorem wd1004 : Cond.instanceMethod yX11_fits ∈ WL := mem_WL (t3_in (List.mem_of_getElem? (i := 195) rfl)) rfl
theorem wd1005 : Cond.selects "FuseBox" yX11_fits yX11_fits ∈ WL := mem_WL (t3_in (List.mem_of_getElem? (i := 196) rfl)) rfl
theorem wd1006 : Cond.code yX11_fits cX11_fits 7 (some .int) ∈ WL := mem_WL (t3_in (List.mem_of_getElem? (i := 197) rfl)) rfl
theorem wd1007 : Cond.methodLink "FuseBoxLaw" 121 yX12_fits ∈ WL := mem_WL (t5_in (List.mem_of_getElem? (i := 209) rfl)) rfl
theorem wd1008 : Cond.instanceMethod yX12_fits ∈ WL := mem_WL (t5_in (List.mem_of_getElem? (i := 210) rfl)) rfl
theorem wd1009 : Cond.selects "FuseBoxModel" yX12_fits yX12_fits ∈ WL := mem_WL (t5_in (List.mem_of_getElem? (i := 211) rfl)) rfl
theorem wd1010 : Cond.code yX12_fits cX12_fits 8 (some .int) ∈ WL := mem_WL (t5_in (List.mem_of_getElem? (i := 212) rfl)) rfl
theorem wd1011 : Cond.methodLink "FuseBoxLaw" 122 yX11_chance ∈ WL := mem_WL (t3_in (List.mem_of_getElem? (i := 222) rfl)) rfl
theorem wd1012 : Cond.instanceMethod yX11_chance ∈ WL := mem_WL (t3_in (List.mem_of_getElem? (i := 223) rfl)) rfl
theorem wd1013 : Cond.selects "FuseBox" yX11_chance yX11_chance ∈ WL := mem_WL (t3_in (List.mem_of_getElem? (i := 224) rfl)) rfl
theorem wd1014 : Cond.code yX11_chance cX11_chance 9 (some .int) ∈ WL := mem_WL (t3_in (List.mem_of_getElem? (i := 225) rfl)) rfl
theorem wd1015 : Cond.methodLink "FuseBoxLaw" 126 yX12_chance ∈ WL := mem_WL (t5_in (List.mem_of_getElem? (i := 226) rfl)) rfl
theorem wd1016 : Cond.instanceMethod yX12_chance ∈ WL := mem_WL (t5_in (List.mem_of_getElem? (i := 227) rfl)) rfl
theorem wd1017 : Cond.selects "FuseBoxModel" yX12_chance yX12_chance ∈ WL := mem_WL (t5_in (List.mem_of_getElem? (i := 228) rfl)) rfl
theorem wd1018 : Cond.code yX12_chance cX12_chance 16 (some .int) ∈ WL := mem_WL (t5_in (List.mem_of_getElem? (i := 229) rfl)) rfl
theorem wd1019 : Cond.methodLink "FuseBoxLaw" 127 yX11_drawn ∈ WL := mem_WL (t3_in (List.mem_of_getElem? (i := 237) rfl)) rfl
theorem wd1020 : Cond.instanceMethod yX11_drawn ∈ WL := mem_WL (t3_in (List.mem_of_getElem? (i := 238) rfl)) rfl
theorem wd1021 : Cond.selects "FuseBox" yX11_drawn yX11_drawn ∈ WL := mem_WL (t3_in (List.mem_of_getElem? (i := 239) rfl)) rfl
theorem wd1022 : Cond.code yX11_drawn cX11_drawn 7 (some .int) ∈ WL := mem_WL (t4_in (List.mem_of_getElem? (i := 0) rfl)) rfl
theorem wd1023 : Cond.methodLink "FuseBoxLaw" 130 yX12_drawn ∈ WL := mem_WL (t5_in (List.mem_of_getElem? (i := 231) rfl)) rfl
theorem wd1024 : Cond.instanceMethod yX12_drawn ∈ WL := mem_WL (t5_in (List.mem_of_getElem? (i := 232) rfl)) rfl
theorem wd1025 : Cond.selects "FuseBoxModel" yX12_drawn yX12_drawn ∈ WL := mem_WL (t5_in (List.mem_of_getElem? (i := 233) rfl)) rfl
theorem wd1026 : Cond.code yX12_drawn cX12_drawn 9 (some .int) ∈ WL := mem_WL (t5_in (List.mem_of_getElem? (i := 234) rfl)) rfl
theorem wd1027 : Cond.methodLink "FuseBoxLaw" 131 yX11_image ∈ WL := mem_WL (t4_in (List.mem_of_getElem? (i := 16) rfl)) rfl
theorem wd1028 : Cond.instanceMethod yX11_image ∈ WL := mem_WL (t4_in (List.mem_of_getElem? (i := 17) rfl)) rfl
theorem wd1029 : Cond.selects "FuseBox" yX11_image yX11_image ∈ WL := mem_WL (t4_in (List.mem_of_getElem? (i := 18) rfl)) rfl
theorem wd1030 : Cond.code yX11_image cX11_image 2 (some .int) ∈ WL := mem_WL (t4_in (List.mem_of_getElem? (i := 19) rfl)) rfl
theorem wd1031 : Cond.methodLink "FuseBoxLaw" 134 yX12_image ∈ WL := mem_WL (t5_in (List.mem_of_getElem? (i := 238) rfl)) rfl
theorem wd1032 : Cond.instanceMethod yX12_image ∈ WL := mem_WL (t5_in (List.mem_of_getElem? (i := 239) rfl)) rfl
theorem wd1033 : Cond.selects "FuseBoxModel" yX12_image yX12_image ∈ WL := mem_WL (t6_in (List.mem_of_getElem? (i := 0) rfl)) rfl
theorem wd1034 : Cond.code yX12_image cX12_image 3 (some .int) ∈ WL := mem_WL (t6_in (List.mem_of_getElem? (i := 1) rfl)) rfl
theorem wd1035 : Cond.methodLink "FuseBoxLaw" 135 yX11_restore ∈ WL := mem_WL (t4_in (List.mem_of_getElem? (i := 23) rfl)) rfl
theorem wd1036 : Cond.instanceMethod yX11_restore ∈ WL := mem_WL (t4_in (List.mem_of_getElem? (i := 24) rfl)) rfl
theorem wd1037 : Cond.selects "FuseBox" yX11_restore yX11_restore ∈ WL := mem_WL (t4_in (List.mem_of_getElem? (i := 25) rfl)) rfl
theorem wd1038 : Cond.code yX11_restore cX11_restore 2 (some .int) ∈ WL := mem_WL (t4_in (List.mem_of_getElem? (i := 26) rfl)) rfl
theorem wd1039 : Cond.methodLink "FuseBoxLaw" 138 yX12_restore ∈ WL := mem_WL (t6_in (List.mem_of_getElem? (i := 2) rfl)) rfl
theorem wd1040 : Cond.instanceMethod yX12_restore ∈ WL := mem_WL (t6_in (List.mem_of_getElem? (i := 3) rfl)) rfl
theorem wd1041 : Cond.selects "FuseBoxModel" yX12_restore yX12_restore ∈ WL := mem_WL (t6_in (List.mem_of_getElem? (i := 4) rfl)) rfl
theorem wd1042 : Cond.code yX12_restore cX12_restore 3 (some .int) ∈ WL := mem_WL (t6_in (List.mem_of_getElem? (i := 5) rfl)) rfl
theorem wd1043 : Cond.methodLink "FuseBoxLaw" 139 yX11_kind ∈ WL := mem_WL (t4_in (List.mem_of_getElem? (i := 27) rfl)) rfl
theorem wd1044 : Cond.instanceMethod yX11_kind ∈ WL := mem_WL (t4_in (List.mem_of_getElem? (i := 28) rfl)) rfl
theorem wd1045 : Cond.selects "FuseBox" yX11_kind yX11_kind ∈ WL := mem_WL (t4_in (List.mem_of_getElem? (i := 29) rfl)) rfl
theorem wd1046 : Cond.code yX11_kind cX11_kind 2 (some .int) ∈ WL := mem_WL (t4_in (List.mem_of_getElem? (i := 30) rfl)) rfl
theorem wd1047 : Cond.methodLink "FuseBoxLaw" 142 yX12_kind ∈ WL := mem_WL (t6_in (List.mem_of_getElem? (i := 6) rfl)) rfl
theorem wd1048 : Cond.instanceMethod yX12_kind ∈ WL := mem_WL (t6_in (List.mem_of_getElem? (i := 7) rfl)) rfl
theorem wd1049 : Cond.selects "FuseBoxModel" yX12_kind yX12_kind ∈ WL := mem_WL (t6_in (List.mem_of_getElem? (i := 8) rfl)) rfl
theorem wd1050 : Cond.code yX12_kind cX12_kind 2 (some .int) ∈ WL := mem_WL (t6_in (List.mem_of_getElem? (i := 9) rfl)) rfl
theorem wd1051 : Cond.methodLink "FuseBoxLaw" 143 yX11_as ∈ WL := mem_WL (t4_in (List.mem_of_getElem? (i := 31) rfl)) rfl
theorem wd1052 : Cond.instanceMethod yX11_as ∈ WL := mem_WL (t4_in (List.mem_of_getElem? (i := 32) rfl)) rfl
theorem wd1053 : Cond.selects "FuseBox" yX11_as yX11_as ∈ WL := mem_WL (t4_in (List.mem_of_getElem? (i := 33) rfl)) rfl
theorem wd1054 : Cond.code yX11_as cX11_as 3 (some .int) ∈ WL := mem_WL (t4_in (List.mem_of_getElem? (i := 34) rfl)) rfl
theorem wd1055 : Cond.methodLink "FuseBoxLaw" 146 yX12_as ∈ WL := mem_WL (t6_in (List.mem_of_getElem? (i := 10) rfl)) rfl
theorem wd1056 : Cond.instanceMethod yX12_as ∈ WL := mem_WL (t6_in (List.mem_of_getElem? (i := 11) rfl)) rfl
theorem wd1057 : Cond.selects "FuseBoxModel" yX12_as yX12_as ∈ WL := mem_WL (t6_in (List.mem_of_getElem? (i := 12) rfl)) rfl
theorem wd1058 : Cond.code yX12_as cX12_as 5 (some .int) ∈ WL := mem_WL (t6_in (List.mem_of_getElem? (i := 13) rfl)) rfl
theorem wd1059 : Cond.methodLink "FuseBoxLaw" 147 yX11_ask ∈ WL := mem_WL (t4_in (List.mem_of_getElem? (i := 39) rfl)) rfl
theorem wd1060 : Cond.instanceMethod yX11_ask ∈ WL := mem_WL (t4_in (List.mem_of_getElem? (i := 40) rfl)) rfl
theorem wd1061 : Cond.selects "FuseBox" yX11_ask yX11_ask ∈ WL := mem_WL (t4_in (List.mem_of_getElem? (i := 41) rfl)) rfl
theorem wd1062 : Cond.code yX11_ask cX11_ask 4 (some .int) ∈ WL := mem_WL (t4_in (List.mem_of_getElem? (i := 42) rfl)) rfl
theorem wd1063 : Cond.methodLink "FuseBoxLaw" 150 yX12_ask ∈ WL := mem_WL (t6_in (List.mem_of_getElem? (i := 14) rfl)) rfl
theorem wd1064 : Cond.instanceMethod yX12_ask ∈ WL := mem_WL (t6_in (List.mem_of_getElem? (i := 15) rfl)) rfl
theorem wd1065 : Cond.selects "FuseBoxModel" yX12_ask yX12_ask ∈ WL := mem_WL (t6_in (List.mem_of_getElem? (i := 16) rfl)) rfl
theorem wd1066 : Cond.code yX12_ask cX12_ask 4 (some .int) ∈ WL := mem_WL (t6_in (List.mem_of_getElem? (i := 17) rfl)) rfl
theorem wd1067 : Cond.methodLink "FuseBoxLaw" 151 yX11_trace ∈ WL := mem_WL (t4_in (List.mem_of_getElem? (i := 98) rfl)) rfl
theorem wd1068 : Cond.instanceMethod yX11_trace ∈ WL := mem_WL (t4_in (List.mem_of_getElem? (i := 99) rfl)) rfl
theorem wd1069 : Cond.selects "FuseBox" yX11_trace yX11_trace ∈ WL := mem_WL (t4_in (List.mem_of_getElem? (i := 100) rfl)) rfl
theorem wd1070 : Cond.code yX11_trace cX11_trace 2 (some .int) ∈ WL := mem_WL (t4_in (List.mem_of_getElem? (i := 101) rfl)) rfl
theorem wd1071 : Cond.methodLink "FuseBoxLaw" 154 yX12_trace ∈ WL := mem_WL (t6_in (List.mem_of_getElem? (i := 42) rfl)) rfl
theorem wd1072 : Cond.instanceMethod yX12_trace ∈ WL := mem_WL (t6_in (List.mem_of_getElem? (i := 43) rfl)) rfl
theorem wd1073 : Cond.selects "FuseBoxModel" yX12_trace yX12_trace ∈ WL := mem_WL (t6_in (List.mem_of_getElem? (i := 44) rfl)) rfl
theorem wd1074 : Cond.code yX12_trace cX12_trace 2 (some .int) ∈ WL := mem_WL (t6_in (List.mem_of_getElem? (i := 45) rfl)) rfl
theorem wd1075 : Cond.methodLink "FuseBoxLaw" 155 yX11_count ∈ WL := mem_WL (t4_in (List.mem_of_getElem? (i := 102) rfl)) rfl
theorem wd1076 : Cond.instanceMethod yX11_count ∈ WL := mem_WL (t4_in (List.mem_of_getElem? (i := 103) rfl)) rfl
theorem wd1077 : Cond.selects "FuseBox" yX11_count yX11_count ∈ WL := mem_WL (t4_in (List.mem_of_getElem? (i := 104) rfl)) rfl
theorem wd1078 : Cond.code yX11_count cX11_count 2 (some .int) ∈ WL := mem_WL (t4_in (List.mem_of_getElem? (i := 105) rfl)) rfl
theorem wd1079 : Cond.methodLink "FuseBoxLaw" 158 yX12_count ∈ WL := mem_WL (t6_in (List.mem_of_getElem? (i := 46) rfl)) rfl
theorem wd1080 : Cond.instanceMethod yX12_count ∈ WL := mem_WL (t6_in (List.mem_of_getElem? (i := 47) rfl)) rfl
theorem wd1081 : Cond.selects "FuseBoxModel" yX12_count yX12_count ∈ WL := mem_WL (t6_in (List.mem_of_getElem? (i := 48) rfl)) rfl
theorem wd1082 : Cond.code yX12_count cX12_count 4 (some .int) ∈ WL := mem_WL (t6_in (List.mem_of_getElem? (i := 49) rfl)) rfl
theorem wd1083 : Cond.methodLink "FuseBoxLaw" 159 yX11_status ∈ WL := mem_WL (t4_in (List.mem_of_getElem? (i := 110) rfl)) rfl
theorem wd1084 : Cond.instanceMethod yX11_status ∈ WL := mem_WL (t4_in (List.mem_of_getElem? (i := 111) rfl)) rfl
theorem wd1085 : Cond.selects "FuseBox" yX11_status yX11_status ∈ WL := mem_WL (t4_in (List.mem_of_getElem? (i := 112) rfl)) rfl
theorem wd1086 : Cond.code yX11_status cX11_status 1 (some .int) ∈ WL := mem_WL (t4_in (List.mem_of_getElem? (i := 113) rfl)) rfl
theorem wd1087 : Cond.methodLink "FuseBoxLaw" 162 yX12_status ∈ WL := mem_WL (t6_in (List.mem_of_getElem? (i := 51) rfl)) rfl
theorem wd1088 : Cond.instanceMethod yX12_status ∈ WL := mem_WL (t6_in (List.mem_of_getElem? (i := 52) rfl)) rfl
theorem wd1089 : Cond.selects "FuseBoxModel" yX12_status yX12_status ∈ WL := mem_WL (t6_in (List.mem_of_getElem? (i := 53) rfl)) rfl
theorem wd1090 : Cond.code yX12_status cX12_status 1 (some .int) ∈ WL := mem_WL (t6_in (List.mem_of_getElem? (i := 54) rfl)) rfl
theorem gc318 : GoodIn WL (wsV "FuseBoxLaw" 13 "FuseBox" yX11_row (Cond.code yX11_row cX11_row 4 (some .int) :: WL)) := gin_V wd803 wd804 wd805 wd303 wd806
theorem gc319 : (yX11_row).cls = "FuseBox" ∧ (yX11_row).cls ≠ "java/lang/invoke/MethodHandle" ∧ (yX11_row).cls ≠ "java/lang/invoke/VarHandle" ∧ (parseMethodDescriptor (yX11_row).desc).map (fun d => d.parameters.length) = some 3 := by decide +kernel
theorem gc320 : GoodIn WL (wsV "FuseBoxLaw" 17 "FuseBoxModel" yX12_row (Cond.code yX12_row cX12_row 5 (some .int) :: WL)) := gin_V wd807 wd808 wd809 wd533 wd810
theorem gc321 : (yX12_row).cls = "FuseBoxModel" ∧ (yX12_row).cls ≠ "java/lang/invoke/MethodHandle" ∧ (yX12_row).cls ≠ "java/lang/invoke/VarHandle" ∧ (parseMethodDescriptor (yX12_row).desc).map (fun d => d.parameters.length) = some 3 := by decide +kernel
theorem gc322 : GoodIn WL (wsV "FuseBoxLaw" 18 "FuseBox" yX11_set (Cond.code yX11_set cX11_set 5 (some .int) :: WL)) := gin_V wd811 wd812 wd813 wd303 wd814
theorem gc323 : (yX11_set).cls = "FuseBox" ∧ (yX11_set).cls ≠ "java/lang/invoke/MethodHandle" ∧ (yX11_set).cls ≠ "java/lang/invoke/VarHandle" ∧ (parseMethodDescriptor (yX11_set).desc).map (fun d => d.parameters.length) = some 3 := by decide +kernel
theorem gc324 : GoodIn WL (wsV "FuseBoxLaw" 21 "FuseBoxModel" yX12_set (Cond.code yX12_set cX12_set 4 (some .int) :: WL)) := gin_V wd815 wd816 wd817 wd533 wd818
theorem gc325 : (yX12_set).cls = "FuseBoxModel" ∧ (yX12_set).cls ≠ "java/lang/invoke/MethodHandle" ∧ (yX12_set).cls ≠ "java/lang/invoke/VarHandle" ∧ (parseMethodDescriptor (yX12_set).desc).map (fun d => d.parameters.length) = some 3 := by decide +kernel
theorem gc326 : GoodIn WL (wsV "FuseBoxLaw" 22 "FuseBox" yX11_copy (Cond.code yX11_copy cX11_copy 8 (some .int) :: WL)) := gin_V wd819 wd820 wd821 wd303 wd822
theorem gc327 : (yX11_copy).cls = "FuseBox" ∧ (yX11_copy).cls ≠ "java/lang/invoke/MethodHandle" ∧ (yX11_copy).cls ≠ "java/lang/invoke/VarHandle" ∧ (parseMethodDescriptor (yX11_copy).desc).map (fun d => d.parameters.length) = some 5 := by decide +kernel
theorem gc328 : GoodIn WL (wsV "FuseBoxLaw" 26 "FuseBoxModel" yX12_copy (Cond.code yX12_copy cX12_copy 7 (some .int) :: WL)) := gin_V wd823 wd824 wd825 wd533 wd826
theorem gc329 : (yX12_copy).cls = "FuseBoxModel" ∧ (yX12_copy).cls ≠ "java/lang/invoke/MethodHandle" ∧ (yX12_copy).cls ≠ "java/lang/invoke/VarHandle" ∧ (parseMethodDescriptor (yX12_copy).desc).map (fun d => d.parameters.length) = some 5 := by decide +kernel
theorem gc330 : GoodIn WL (wsV "FuseBoxLaw" 27 "FuseBox" yX11_drop (Cond.code yX11_drop cX11_drop 4 (some .int) :: WL)) := gin_V wd827 wd828 wd829 wd303 wd830
theorem gc331 : (yX11_drop).cls = "FuseBox" ∧ (yX11_drop).cls ≠ "java/lang/invoke/MethodHandle" ∧ (yX11_drop).cls ≠ "java/lang/invoke/VarHandle" ∧ (parseMethodDescriptor (yX11_drop).desc).map (fun d => d.parameters.length) = some 1 := by decide +kernel
theorem gc332 : GoodIn WL (wsV "FuseBoxLaw" 31 "FuseBoxModel" yX12_drop (Cond.code yX12_drop cX12_drop 3 (some .int) :: WL)) := gin_V wd831 wd832 wd833 wd533 wd834
theorem gc333 : (yX12_drop).cls = "FuseBoxModel" ∧ (yX12_drop).cls ≠ "java/lang/invoke/MethodHandle" ∧ (yX12_drop).cls ≠ "java/lang/invoke/VarHandle" ∧ (parseMethodDescriptor (yX12_drop).desc).map (fun d => d.parameters.length) = some 1 := by decide +kernel
theorem gc334 : GoodIn WL (wsV "FuseBoxLaw" 32 "FuseBox" yX11_feed (Cond.code yX11_feed cX11_feed 2 (some .int) :: WL)) := gin_V wd835 wd836 wd837 wd303 wd838
theorem gc335 : (yX11_feed).cls = "FuseBox" ∧ (yX11_feed).cls ≠ "java/lang/invoke/MethodHandle" ∧ (yX11_feed).cls ≠ "java/lang/invoke/VarHandle" ∧ (parseMethodDescriptor (yX11_feed).desc).map (fun d => d.parameters.length) = some 1 := by decide +kernel
theorem gc336 : GoodIn WL (wsV "FuseBoxLaw" 35 "FuseBoxModel" yX12_feed (Cond.code yX12_feed cX12_feed 2 (some .int) :: WL)) := gin_V wd839 wd840 wd841 wd533 wd842
theorem gc337 : (yX12_feed).cls = "FuseBoxModel" ∧ (yX12_feed).cls ≠ "java/lang/invoke/MethodHandle" ∧ (yX12_feed).cls ≠ "java/lang/invoke/VarHandle" ∧ (parseMethodDescriptor (yX12_feed).desc).map (fun d => d.parameters.length) = some 1 := by decide +kernel
theorem gc338 : GoodIn WL (wsV "FuseBoxLaw" 36 "FuseBox" yX11_house (Cond.code yX11_house cX11_house 2 (some .int) :: WL)) := gin_V wd843 wd844 wd845 wd303 wd846
theorem gc339 : (yX11_house).cls = "FuseBox" ∧ (yX11_house).cls ≠ "java/lang/invoke/MethodHandle" ∧ (yX11_house).cls ≠ "java/lang/invoke/VarHandle" ∧ (parseMethodDescriptor (yX11_house).desc).map (fun d => d.parameters.length) = some 0 := by decide +kernel
theorem gc340 : GoodIn WL (wsV "FuseBoxLaw" 40 "FuseBoxModel" yX12_house (Cond.code yX12_house cX12_house 2 (some .int) :: WL)) := gin_V wd847 wd848 wd849 wd533 wd850
theorem gc341 : (yX12_house).cls = "FuseBoxModel" ∧ (yX12_house).cls ≠ "java/lang/invoke/MethodHandle" ∧ (yX12_house).cls ≠ "java/lang/invoke/VarHandle" ∧ (parseMethodDescriptor (yX12_house).desc).map (fun d => d.parameters.length) = some 0 := by decide +kernel
theorem gc342 : GoodIn WL (wsV "FuseBoxLaw" 41 "FuseBox" yX11_fault (Cond.code yX11_fault cX11_fault 1 (some .int) :: WL)) := gin_V wd851 wd852 wd853 wd303 wd854
theorem gc343 : (yX11_fault).cls = "FuseBox" ∧ (yX11_fault).cls ≠ "java/lang/invoke/MethodHandle" ∧ (yX11_fault).cls ≠ "java/lang/invoke/VarHandle" ∧ (parseMethodDescriptor (yX11_fault).desc).map (fun d => d.parameters.length) = some 0 := by decide +kernel
theorem gc344 : GoodIn WL (wsV "FuseBoxLaw" 44 "FuseBoxModel" yX12_fault (Cond.code yX12_fault cX12_fault 1 (some .int) :: WL)) := gin_V wd855 wd856 wd857 wd533 wd858
theorem gc345 : (yX12_fault).cls = "FuseBoxModel" ∧ (yX12_fault).cls ≠ "java/lang/invoke/MethodHandle" ∧ (yX12_fault).cls ≠ "java/lang/invoke/VarHandle" ∧ (parseMethodDescriptor (yX12_fault).desc).map (fun d => d.parameters.length) = some 0 := by decide +kernel
theorem gc346 : GoodIn WL (wsV "FuseBoxLaw" 45 "FuseBox" yX11_minutes (Cond.code yX11_minutes cX11_minutes 3 (some .int) :: WL)) := gin_V wd859 wd860 wd861 wd303 wd862
theorem gc347 : (yX11_minutes).cls = "FuseBox" ∧ (yX11_minutes).cls ≠ "java/lang/invoke/MethodHandle" ∧ (yX11_minutes).cls ≠ "java/lang/invoke/VarHandle" ∧ (parseMethodDescriptor (yX11_minutes).desc).map (fun d => d.parameters.length) = some 1 := by decide +kernel
theorem gc348 : GoodIn WL (wsV "FuseBoxLaw" 48 "FuseBoxModel" yX12_minutes (Cond.code yX12_minutes cX12_minutes 3 (some .int) :: WL)) := gin_V wd863 wd864 wd865 wd533 wd866
theorem gc349 : (yX12_minutes).cls = "FuseBoxModel" ∧ (yX12_minutes).cls ≠ "java/lang/invoke/MethodHandle" ∧ (yX12_minutes).cls ≠ "java/lang/invoke/VarHandle" ∧ (parseMethodDescriptor (yX12_minutes).desc).map (fun d => d.parameters.length) = some 1 := by decide +kernel
theorem gc350 : GoodIn WL (wsV "FuseBoxLaw" 49 "FuseBox" yX11_turn (Cond.code yX11_turn cX11_turn 3 (some .int) :: WL)) := gin_V wd867 wd868 wd869 wd303 wd870
theorem gc351 : (yX11_turn).cls = "FuseBox" ∧ (yX11_turn).cls ≠ "java/lang/invoke/MethodHandle" ∧ (yX11_turn).cls ≠ "java/lang/invoke/VarHandle" ∧ (parseMethodDescriptor (yX11_turn).desc).map (fun d => d.parameters.length) = some 2 := by decide +kernel
theorem gc352 : GoodIn WL (wsV "FuseBoxLaw" 53 "FuseBoxModel" yX12_turn (Cond.code yX12_turn cX12_turn 3 (some .int) :: WL)) := gin_V wd871 wd872 wd873 wd533 wd874
theorem gc353 : (yX12_turn).cls = "FuseBoxModel" ∧ (yX12_turn).cls ≠ "java/lang/invoke/MethodHandle" ∧ (yX12_turn).cls ≠ "java/lang/invoke/VarHandle" ∧ (parseMethodDescriptor (yX12_turn).desc).map (fun d => d.parameters.length) = some 2 := by decide +kernel
theorem gc354 : GoodIn WL (wsV "FuseBoxLaw" 54 "FuseBox" yX11_plug (Cond.code yX11_plug cX11_plug 4 (some .int) :: WL)) := gin_V wd875 wd876 wd877 wd303 wd878
theorem gc355 : (yX11_plug).cls = "FuseBox" ∧ (yX11_plug).cls ≠ "java/lang/invoke/MethodHandle" ∧ (yX11_plug).cls ≠ "java/lang/invoke/VarHandle" ∧ (parseMethodDescriptor (yX11_plug).desc).map (fun d => d.parameters.length) = some 2 := by decide +kernel
theorem gc356 : GoodIn WL (wsV "FuseBoxLaw" 57 "FuseBoxModel" yX12_plug (Cond.code yX12_plug cX12_plug 4 (some .int) :: WL)) := gin_V wd879 wd880 wd881 wd533 wd882
theorem gc357 : (yX12_plug).cls = "FuseBoxModel" ∧ (yX12_plug).cls ≠ "java/lang/invoke/MethodHandle" ∧ (yX12_plug).cls ≠ "java/lang/invoke/VarHandle" ∧ (parseMethodDescriptor (yX12_plug).desc).map (fun d => d.parameters.length) = some 2 := by decide +kernel
theorem gc358 : GoodIn WL (wsV "FuseBoxLaw" 58 "FuseBox" yX11_mend (Cond.code yX11_mend cX11_mend 2 (some .int) :: WL)) := gin_V wd883 wd884 wd885 wd303 wd886
theorem gc359 : (yX11_mend).cls = "FuseBox" ∧ (yX11_mend).cls ≠ "java/lang/invoke/MethodHandle" ∧ (yX11_mend).cls ≠ "java/lang/invoke/VarHandle" ∧ (parseMethodDescriptor (yX11_mend).desc).map (fun d => d.parameters.length) = some 1 := by decide +kernel
theorem gc360 : GoodIn WL (wsV "FuseBoxLaw" 61 "FuseBoxModel" yX12_mend (Cond.code yX12_mend cX12_mend 2 (some .int) :: WL)) := gin_V wd887 wd888 wd889 wd533 wd890
theorem gc361 : (yX12_mend).cls = "FuseBoxModel" ∧ (yX12_mend).cls ≠ "java/lang/invoke/MethodHandle" ∧ (yX12_mend).cls ≠ "java/lang/invoke/VarHandle" ∧ (parseMethodDescriptor (yX12_mend).desc).map (fun d => d.parameters.length) = some 1 := by decide +kernel
theorem gc362 : GoodIn WL (wsV "FuseBoxLaw" 62 "FuseBox" yX11_mains (Cond.code yX11_mains cX11_mains 1 (some .int) :: WL)) := gin_V wd891 wd892 wd893 wd303 wd894
theorem gc363 : (yX11_mains).cls = "FuseBox" ∧ (yX11_mains).cls ≠ "java/lang/invoke/MethodHandle" ∧ (yX11_mains).cls ≠ "java/lang/invoke/VarHandle" ∧ (parseMethodDescriptor (yX11_mains).desc).map (fun d => d.parameters.length) = some 0 := by decide +kernel
theorem gc364 : GoodIn WL (wsV "FuseBoxLaw" 65 "FuseBoxModel" yX12_mains (Cond.code yX12_mains cX12_mains 1 (some .int) :: WL)) := gin_V wd895 wd896 wd897 wd533 wd898
theorem gc365 : (yX12_mains).cls = "FuseBoxModel" ∧ (yX12_mains).cls ≠ "java/lang/invoke/MethodHandle" ∧ (yX12_mains).cls ≠ "java/lang/invoke/VarHandle" ∧ (parseMethodDescriptor (yX12_mains).desc).map (fun d => d.parameters.length) = some 0 := by decide +kernel
theorem gc366 : GoodIn WL (wsV "FuseBoxLaw" 66 "FuseBox" yX11_rate (Cond.code yX11_rate cX11_rate 4 (some .int) :: WL)) := gin_V wd899 wd900 wd901 wd303 wd902
theorem gc367 : (yX11_rate).cls = "FuseBox" ∧ (yX11_rate).cls ≠ "java/lang/invoke/MethodHandle" ∧ (yX11_rate).cls ≠ "java/lang/invoke/VarHandle" ∧ (parseMethodDescriptor (yX11_rate).desc).map (fun d => d.parameters.length) = some 2 := by decide +kernel
theorem gc368 : GoodIn WL (wsV "FuseBoxLaw" 69 "FuseBoxModel" yX12_rate (Cond.code yX12_rate cX12_rate 4 (some .int) :: WL)) := gin_V wd903 wd904 wd905 wd533 wd906
theorem gc369 : (yX12_rate).cls = "FuseBoxModel" ∧ (yX12_rate).cls ≠ "java/lang/invoke/MethodHandle" ∧ (yX12_rate).cls ≠ "java/lang/invoke/VarHandle" ∧ (parseMethodDescriptor (yX12_rate).desc).map (fun d => d.parameters.length) = some 2 := by decide +kernel
theorem gc370 : GoodIn WL (wsV "FuseBoxLaw" 70 "FuseBox" yX11_undo (Cond.code yX11_undo cX11_undo 1 (some .int) :: WL)) := gin_V wd907 wd908 wd909 wd303 wd910
theorem gc371 : (yX11_undo).cls = "FuseBox" ∧ (yX11_undo).cls ≠ "java/lang/invoke/MethodHandle" ∧ (yX11_undo).cls ≠ "java/lang/invoke/VarHandle" ∧ (parseMethodDescriptor (yX11_undo).desc).map (fun d => d.parameters.length) = some 0 := by decide +kernel
theorem gc372 : GoodIn WL (wsV "FuseBoxLaw" 73 "FuseBoxModel" yX12_undo (Cond.code yX12_undo cX12_undo 1 (some .int) :: WL)) := gin_V wd911 wd912 wd913 wd533 wd914
theorem gc373 : (yX12_undo).cls = "FuseBoxModel" ∧ (yX12_undo).cls ≠ "java/lang/invoke/MethodHandle" ∧ (yX12_undo).cls ≠ "java/lang/invoke/VarHandle" ∧ (parseMethodDescriptor (yX12_undo).desc).map (fun d => d.parameters.length) = some 0 := by decide +kernel
theorem gc374 : GoodIn WL (wsV "FuseBoxLaw" 74 "FuseBox" yX11_line (Cond.code yX11_line cX11_line 3 (some .int) :: WL)) := gin_V wd915 wd916 wd917 wd303 wd918
theorem gc375 : (yX11_line).cls = "FuseBox" ∧ (yX11_line).cls ≠ "java/lang/invoke/MethodHandle" ∧ (yX11_line).cls ≠ "java/lang/invoke/VarHandle" ∧ (parseMethodDescriptor (yX11_line).desc).map (fun d => d.parameters.length) = some 2 := by decide +kernel
theorem gc376 : GoodIn WL (wsV "FuseBoxLaw" 77 "FuseBoxModel" yX12_line (Cond.code yX12_line cX12_line 5 (some .int) :: WL)) := gin_V wd919 wd920 wd921 wd533 wd922
theorem gc377 : (yX12_line).cls = "FuseBoxModel" ∧ (yX12_line).cls ≠ "java/lang/invoke/MethodHandle" ∧ (yX12_line).cls ≠ "java/lang/invoke/VarHandle" ∧ (parseMethodDescriptor (yX12_line).desc).map (fun d => d.parameters.length) = some 2 := by decide +kernel
theorem gc378 : GoodIn WL (wsV "FuseBoxLaw" 78 "FuseBox" yX11_thing (Cond.code yX11_thing cX11_thing 3 (some .int) :: WL)) := gin_V wd923 wd924 wd925 wd303 wd926
theorem gc379 : (yX11_thing).cls = "FuseBox" ∧ (yX11_thing).cls ≠ "java/lang/invoke/MethodHandle" ∧ (yX11_thing).cls ≠ "java/lang/invoke/VarHandle" ∧ (parseMethodDescriptor (yX11_thing).desc).map (fun d => d.parameters.length) = some 2 := by decide +kernel
theorem gc380 : GoodIn WL (wsV "FuseBoxLaw" 81 "FuseBoxModel" yX12_thing (Cond.code yX12_thing cX12_thing 3 (some .int) :: WL)) := gin_V wd927 wd928 wd929 wd533 wd930
theorem gc381 : (yX12_thing).cls = "FuseBoxModel" ∧ (yX12_thing).cls ≠ "java/lang/invoke/MethodHandle" ∧ (yX12_thing).cls ≠ "java/lang/invoke/VarHandle" ∧ (parseMethodDescriptor (yX12_thing).desc).map (fun d => d.parameters.length) = some 2 := by decide +kernel
theorem gc382 : GoodIn WL (wsV "FuseBoxLaw" 82 "FuseBox" yX11_heat (Cond.code yX11_heat cX11_heat 3 (some .int) :: WL)) := gin_V wd931 wd932 wd933 wd303 wd934
theorem gc383 : (yX11_heat).cls = "FuseBox" ∧ (yX11_heat).cls ≠ "java/lang/invoke/MethodHandle" ∧ (yX11_heat).cls ≠ "java/lang/invoke/VarHandle" ∧ (parseMethodDescriptor (yX11_heat).desc).map (fun d => d.parameters.length) = some 2 := by decide +kernel
theorem gc384 : GoodIn WL (wsV "FuseBoxLaw" 85 "FuseBoxModel" yX12_heat (Cond.code yX12_heat cX12_heat 3 (some .int) :: WL)) := gin_V wd935 wd936 wd937 wd533 wd938
theorem gc385 : (yX12_heat).cls = "FuseBoxModel" ∧ (yX12_heat).cls ≠ "java/lang/invoke/MethodHandle" ∧ (yX12_heat).cls ≠ "java/lang/invoke/VarHandle" ∧ (parseMethodDescriptor (yX12_heat).desc).map (fun d => d.parameters.length) = some 2 := by decide +kernel
theorem gc386 : GoodIn WL (wsV "FuseBoxLaw" 86 "FuseBox" yX11_later (Cond.code yX11_later cX11_later 3 (some .int) :: WL)) := gin_V wd939 wd940 wd941 wd303 wd942
theorem gc387 : (yX11_later).cls = "FuseBox" ∧ (yX11_later).cls ≠ "java/lang/invoke/MethodHandle" ∧ (yX11_later).cls ≠ "java/lang/invoke/VarHandle" ∧ (parseMethodDescriptor (yX11_later).desc).map (fun d => d.parameters.length) = some 2 := by decide +kernel
theorem gc388 : GoodIn WL (wsV "FuseBoxLaw" 89 "FuseBoxModel" yX12_later (Cond.code yX12_later cX12_later 3 (some .int) :: WL)) := gin_V wd943 wd944 wd945 wd533 wd946
theorem gc389 : (yX12_later).cls = "FuseBoxModel" ∧ (yX12_later).cls ≠ "java/lang/invoke/MethodHandle" ∧ (yX12_later).cls ≠ "java/lang/invoke/VarHandle" ∧ (parseMethodDescriptor (yX12_later).desc).map (fun d => d.parameters.length) = some 2 := by decide +kernel
theorem gc390 : GoodIn WL (wsV "FuseBoxLaw" 90 "FuseBox" yX11_lost (Cond.code yX11_lost cX11_lost 3 (some .int) :: WL)) := gin_V wd947 wd948 wd949 wd303 wd950
theorem gc391 : (yX11_lost).cls = "FuseBox" ∧ (yX11_lost).cls ≠ "java/lang/invoke/MethodHandle" ∧ (yX11_lost).cls ≠ "java/lang/invoke/VarHandle" ∧ (parseMethodDescriptor (yX11_lost).desc).map (fun d => d.parameters.length) = some 1 := by decide +kernel
theorem gc392 : GoodIn WL (wsV "FuseBoxLaw" 93 "FuseBoxModel" yX12_lost (Cond.code yX12_lost cX12_lost 3 (some .int) :: WL)) := gin_V wd951 wd952 wd953 wd533 wd954
theorem gc393 : (yX12_lost).cls = "FuseBoxModel" ∧ (yX12_lost).cls ≠ "java/lang/invoke/MethodHandle" ∧ (yX12_lost).cls ≠ "java/lang/invoke/VarHandle" ∧ (parseMethodDescriptor (yX12_lost).desc).map (fun d => d.parameters.length) = some 1 := by decide +kernel
theorem gc394 : GoodIn WL (wsV "FuseBoxLaw" 94 "FuseBox" yX11_dark (Cond.code yX11_dark cX11_dark 2 (some .int) :: WL)) := gin_V wd955 wd956 wd957 wd303 wd958
theorem gc395 : (yX11_dark).cls = "FuseBox" ∧ (yX11_dark).cls ≠ "java/lang/invoke/MethodHandle" ∧ (yX11_dark).cls ≠ "java/lang/invoke/VarHandle" ∧ (parseMethodDescriptor (yX11_dark).desc).map (fun d => d.parameters.length) = some 0 := by decide +kernel
theorem gc396 : GoodIn WL (wsV "FuseBoxLaw" 97 "FuseBoxModel" yX12_dark (Cond.code yX12_dark cX12_dark 2 (some .int) :: WL)) := gin_V wd959 wd960 wd961 wd533 wd962
theorem gc397 : (yX12_dark).cls = "FuseBoxModel" ∧ (yX12_dark).cls ≠ "java/lang/invoke/MethodHandle" ∧ (yX12_dark).cls ≠ "java/lang/invoke/VarHandle" ∧ (parseMethodDescriptor (yX12_dark).desc).map (fun d => d.parameters.length) = some 0 := by decide +kernel
theorem gc398 : GoodIn WL (wsV "FuseBoxLaw" 98 "FuseBox" yX11_shed (Cond.code yX11_shed cX11_shed 8 (some .int) :: WL)) := gin_V wd963 wd964 wd965 wd303 wd966
theorem gc399 : (yX11_shed).cls = "FuseBox" ∧ (yX11_shed).cls ≠ "java/lang/invoke/MethodHandle" ∧ (yX11_shed).cls ≠ "java/lang/invoke/VarHandle" ∧ (parseMethodDescriptor (yX11_shed).desc).map (fun d => d.parameters.length) = some 3 := by decide +kernel
theorem gc400 : GoodIn WL (wsV "FuseBoxLaw" 101 "FuseBoxModel" yX12_shed (Cond.code yX12_shed cX12_shed 8 (some .int) :: WL)) := gin_V wd967 wd968 wd969 wd533 wd970
theorem gc401 : (yX12_shed).cls = "FuseBoxModel" ∧ (yX12_shed).cls ≠ "java/lang/invoke/MethodHandle" ∧ (yX12_shed).cls ≠ "java/lang/invoke/VarHandle" ∧ (parseMethodDescriptor (yX12_shed).desc).map (fun d => d.parameters.length) = some 3 := by decide +kernel
theorem gc402 : GoodIn WL (wsV "FuseBoxLaw" 102 "FuseBox" yX11_plugs (Cond.code yX11_plugs cX11_plugs 3 (some .int) :: WL)) := gin_V wd971 wd972 wd973 wd303 wd974
theorem gc403 : (yX11_plugs).cls = "FuseBox" ∧ (yX11_plugs).cls ≠ "java/lang/invoke/MethodHandle" ∧ (yX11_plugs).cls ≠ "java/lang/invoke/VarHandle" ∧ (parseMethodDescriptor (yX11_plugs).desc).map (fun d => d.parameters.length) = some 2 := by decide +kernel
theorem gc404 : GoodIn WL (wsV "FuseBoxLaw" 105 "FuseBoxModel" yX12_plugs (Cond.code yX12_plugs cX12_plugs 8 (some .int) :: WL)) := gin_V wd975 wd976 wd977 wd533 wd978
theorem gc405 : (yX12_plugs).cls = "FuseBoxModel" ∧ (yX12_plugs).cls ≠ "java/lang/invoke/MethodHandle" ∧ (yX12_plugs).cls ≠ "java/lang/invoke/VarHandle" ∧ (parseMethodDescriptor (yX12_plugs).desc).map (fun d => d.parameters.length) = some 2 := by decide +kernel
theorem gc406 : GoodIn WL (wsV "FuseBoxLaw" 106 "FuseBox" yX11_holds (Cond.code yX11_holds cX11_holds 4 (some .int) :: WL)) := gin_V wd979 wd980 wd981 wd303 wd982
theorem gc407 : (yX11_holds).cls = "FuseBox" ∧ (yX11_holds).cls ≠ "java/lang/invoke/MethodHandle" ∧ (yX11_holds).cls ≠ "java/lang/invoke/VarHandle" ∧ (parseMethodDescriptor (yX11_holds).desc).map (fun d => d.parameters.length) = some 2 := by decide +kernel
theorem gc408 : GoodIn WL (wsV "FuseBoxLaw" 109 "FuseBoxModel" yX12_holds (Cond.code yX12_holds cX12_holds 4 (some .int) :: WL)) := gin_V wd983 wd984 wd985 wd533 wd986
theorem gc409 : (yX12_holds).cls = "FuseBoxModel" ∧ (yX12_holds).cls ≠ "java/lang/invoke/MethodHandle" ∧ (yX12_holds).cls ≠ "java/lang/invoke/VarHandle" ∧ (parseMethodDescriptor (yX12_holds).desc).map (fun d => d.parameters.length) = some 2 := by decide +kernel
theorem gc410 : GoodIn WL (wsV "FuseBoxLaw" 110 "FuseBox" yX11_faulty (Cond.code yX11_faulty cX11_faulty 5 (some .int) :: WL)) := gin_V wd987 wd988 wd989 wd303 wd990
theorem gc411 : (yX11_faulty).cls = "FuseBox" ∧ (yX11_faulty).cls ≠ "java/lang/invoke/MethodHandle" ∧ (yX11_faulty).cls ≠ "java/lang/invoke/VarHandle" ∧ (parseMethodDescriptor (yX11_faulty).desc).map (fun d => d.parameters.length) = some 2 := by decide +kernel
theorem gc412 : GoodIn WL (wsV "FuseBoxLaw" 113 "FuseBoxModel" yX12_faulty (Cond.code yX12_faulty cX12_faulty 5 (some .int) :: WL)) := gin_V wd991 wd992 wd993 wd533 wd994
theorem gc413 : (yX12_faulty).cls = "FuseBoxModel" ∧ (yX12_faulty).cls ≠ "java/lang/invoke/MethodHandle" ∧ (yX12_faulty).cls ≠ "java/lang/invoke/VarHandle" ∧ (parseMethodDescriptor (yX12_faulty).desc).map (fun d => d.parameters.length) = some 2 := by decide +kernel
theorem gc414 : GoodIn WL (wsV "FuseBoxLaw" 114 "FuseBox" yX11_bill (Cond.code yX11_bill cX11_bill 7 (some .int) :: WL)) := gin_V wd995 wd996 wd997 wd303 wd998
theorem gc415 : (yX11_bill).cls = "FuseBox" ∧ (yX11_bill).cls ≠ "java/lang/invoke/MethodHandle" ∧ (yX11_bill).cls ≠ "java/lang/invoke/VarHandle" ∧ (parseMethodDescriptor (yX11_bill).desc).map (fun d => d.parameters.length) = some 2 := by decide +kernel
theorem gc416 : GoodIn WL (wsV "FuseBoxLaw" 117 "FuseBoxModel" yX12_bill (Cond.code yX12_bill cX12_bill 7 (some .int) :: WL)) := gin_V wd999 wd1000 wd1001 wd533 wd1002
theorem gc417 : (yX12_bill).cls = "FuseBoxModel" ∧ (yX12_bill).cls ≠ "java/lang/invoke/MethodHandle" ∧ (yX12_bill).cls ≠ "java/lang/invoke/VarHandle" ∧ (parseMethodDescriptor (yX12_bill).desc).map (fun d => d.parameters.length) = some 2 := by decide +kernel
theorem gc418 : GoodIn WL (wsV "FuseBoxLaw" 118 "FuseBox" yX11_fits (Cond.code yX11_fits cX11_fits 7 (some .int) :: WL)) := gin_V wd1003 wd1004 wd1005 wd303 wd1006
theorem gc419 : (yX11_fits).cls = "FuseBox" ∧ (yX11_fits).cls ≠ "java/lang/invoke/MethodHandle" ∧ (yX11_fits).cls ≠ "java/lang/invoke/VarHandle" ∧ (parseMethodDescriptor (yX11_fits).desc).map (fun d => d.parameters.length) = some 5 := by decide +kernel
theorem gc420 : GoodIn WL (wsV "FuseBoxLaw" 121 "FuseBoxModel" yX12_fits (Cond.code yX12_fits cX12_fits 8 (some .int) :: WL)) := gin_V wd1007 wd1008 wd1009 wd533 wd1010
theorem gc421 : (yX12_fits).cls = "FuseBoxModel" ∧ (yX12_fits).cls ≠ "java/lang/invoke/MethodHandle" ∧ (yX12_fits).cls ≠ "java/lang/invoke/VarHandle" ∧ (parseMethodDescriptor (yX12_fits).desc).map (fun d => d.parameters.length) = some 5 := by decide +kernel
theorem gc422 : GoodIn WL (wsV "FuseBoxLaw" 122 "FuseBox" yX11_chance (Cond.code yX11_chance cX11_chance 9 (some .int) :: WL)) := gin_V wd1011 wd1012 wd1013 wd303 wd1014
theorem gc423 : (yX11_chance).cls = "FuseBox" ∧ (yX11_chance).cls ≠ "java/lang/invoke/MethodHandle" ∧ (yX11_chance).cls ≠ "java/lang/invoke/VarHandle" ∧ (parseMethodDescriptor (yX11_chance).desc).map (fun d => d.parameters.length) = some 4 := by decide +kernel
theorem gc424 : GoodIn WL (wsV "FuseBoxLaw" 126 "FuseBoxModel" yX12_chance (Cond.code yX12_chance cX12_chance 16 (some .int) :: WL)) := gin_V wd1015 wd1016 wd1017 wd533 wd1018
theorem gc425 : (yX12_chance).cls = "FuseBoxModel" ∧ (yX12_chance).cls ≠ "java/lang/invoke/MethodHandle" ∧ (yX12_chance).cls ≠ "java/lang/invoke/VarHandle" ∧ (parseMethodDescriptor (yX12_chance).desc).map (fun d => d.parameters.length) = some 4 := by decide +kernel
theorem gc426 : GoodIn WL (wsV "FuseBoxLaw" 127 "FuseBox" yX11_drawn (Cond.code yX11_drawn cX11_drawn 7 (some .int) :: WL)) := gin_V wd1019 wd1020 wd1021 wd303 wd1022
theorem gc427 : (yX11_drawn).cls = "FuseBox" ∧ (yX11_drawn).cls ≠ "java/lang/invoke/MethodHandle" ∧ (yX11_drawn).cls ≠ "java/lang/invoke/VarHandle" ∧ (parseMethodDescriptor (yX11_drawn).desc).map (fun d => d.parameters.length) = some 3 := by decide +kernel
theorem gc428 : GoodIn WL (wsV "FuseBoxLaw" 130 "FuseBoxModel" yX12_drawn (Cond.code yX12_drawn cX12_drawn 9 (some .int) :: WL)) := gin_V wd1023 wd1024 wd1025 wd533 wd1026
theorem gc429 : (yX12_drawn).cls = "FuseBoxModel" ∧ (yX12_drawn).cls ≠ "java/lang/invoke/MethodHandle" ∧ (yX12_drawn).cls ≠ "java/lang/invoke/VarHandle" ∧ (parseMethodDescriptor (yX12_drawn).desc).map (fun d => d.parameters.length) = some 3 := by decide +kernel
theorem gc430 : GoodIn WL (wsV "FuseBoxLaw" 131 "FuseBox" yX11_image (Cond.code yX11_image cX11_image 2 (some .int) :: WL)) := gin_V wd1027 wd1028 wd1029 wd303 wd1030
theorem gc431 : (yX11_image).cls = "FuseBox" ∧ (yX11_image).cls ≠ "java/lang/invoke/MethodHandle" ∧ (yX11_image).cls ≠ "java/lang/invoke/VarHandle" ∧ (parseMethodDescriptor (yX11_image).desc).map (fun d => d.parameters.length) = some 1 := by decide +kernel
theorem gc432 : GoodIn WL (wsV "FuseBoxLaw" 134 "FuseBoxModel" yX12_image (Cond.code yX12_image cX12_image 3 (some .int) :: WL)) := gin_V wd1031 wd1032 wd1033 wd533 wd1034
theorem gc433 : (yX12_image).cls = "FuseBoxModel" ∧ (yX12_image).cls ≠ "java/lang/invoke/MethodHandle" ∧ (yX12_image).cls ≠ "java/lang/invoke/VarHandle" ∧ (parseMethodDescriptor (yX12_image).desc).map (fun d => d.parameters.length) = some 1 := by decide +kernel
theorem gc434 : GoodIn WL (wsV "FuseBoxLaw" 135 "FuseBox" yX11_restore (Cond.code yX11_restore cX11_restore 2 (some .int) :: WL)) := gin_V wd1035 wd1036 wd1037 wd303 wd1038
theorem gc435 : (yX11_restore).cls = "FuseBox" ∧ (yX11_restore).cls ≠ "java/lang/invoke/MethodHandle" ∧ (yX11_restore).cls ≠ "java/lang/invoke/VarHandle" ∧ (parseMethodDescriptor (yX11_restore).desc).map (fun d => d.parameters.length) = some 1 := by decide +kernel
theorem gc436 : GoodIn WL (wsV "FuseBoxLaw" 138 "FuseBoxModel" yX12_restore (Cond.code yX12_restore cX12_restore 3 (some .int) :: WL)) := gin_V wd1039 wd1040 wd1041 wd533 wd1042
theorem gc437 : (yX12_restore).cls = "FuseBoxModel" ∧ (yX12_restore).cls ≠ "java/lang/invoke/MethodHandle" ∧ (yX12_restore).cls ≠ "java/lang/invoke/VarHandle" ∧ (parseMethodDescriptor (yX12_restore).desc).map (fun d => d.parameters.length) = some 1 := by decide +kernel
theorem gc438 : GoodIn WL (wsV "FuseBoxLaw" 139 "FuseBox" yX11_kind (Cond.code yX11_kind cX11_kind 2 (some .int) :: WL)) := gin_V wd1043 wd1044 wd1045 wd303 wd1046
theorem gc439 : (yX11_kind).cls = "FuseBox" ∧ (yX11_kind).cls ≠ "java/lang/invoke/MethodHandle" ∧ (yX11_kind).cls ≠ "java/lang/invoke/VarHandle" ∧ (parseMethodDescriptor (yX11_kind).desc).map (fun d => d.parameters.length) = some 1 := by decide +kernel
theorem gc440 : GoodIn WL (wsV "FuseBoxLaw" 142 "FuseBoxModel" yX12_kind (Cond.code yX12_kind cX12_kind 2 (some .int) :: WL)) := gin_V wd1047 wd1048 wd1049 wd533 wd1050
theorem gc441 : (yX12_kind).cls = "FuseBoxModel" ∧ (yX12_kind).cls ≠ "java/lang/invoke/MethodHandle" ∧ (yX12_kind).cls ≠ "java/lang/invoke/VarHandle" ∧ (parseMethodDescriptor (yX12_kind).desc).map (fun d => d.parameters.length) = some 1 := by decide +kernel
theorem gc442 : GoodIn WL (wsV "FuseBoxLaw" 143 "FuseBox" yX11_as (Cond.code yX11_as cX11_as 3 (some .int) :: WL)) := gin_V wd1051 wd1052 wd1053 wd303 wd1054
theorem gc443 : (yX11_as).cls = "FuseBox" ∧ (yX11_as).cls ≠ "java/lang/invoke/MethodHandle" ∧ (yX11_as).cls ≠ "java/lang/invoke/VarHandle" ∧ (parseMethodDescriptor (yX11_as).desc).map (fun d => d.parameters.length) = some 2 := by decide +kernel
theorem gc444 : GoodIn WL (wsV "FuseBoxLaw" 146 "FuseBoxModel" yX12_as (Cond.code yX12_as cX12_as 5 (some .int) :: WL)) := gin_V wd1055 wd1056 wd1057 wd533 wd1058
theorem gc445 : (yX12_as).cls = "FuseBoxModel" ∧ (yX12_as).cls ≠ "java/lang/invoke/MethodHandle" ∧ (yX12_as).cls ≠ "java/lang/invoke/VarHandle" ∧ (parseMethodDescriptor (yX12_as).desc).map (fun d => d.parameters.length) = some 2 := by decide +kernel
theorem gc446 : GoodIn WL (wsV "FuseBoxLaw" 147 "FuseBox" yX11_ask (Cond.code yX11_ask cX11_ask 4 (some .int) :: WL)) := gin_V wd1059 wd1060 wd1061 wd303 wd1062
theorem gc447 : (yX11_ask).cls = "FuseBox" ∧ (yX11_ask).cls ≠ "java/lang/invoke/MethodHandle" ∧ (yX11_ask).cls ≠ "java/lang/invoke/VarHandle" ∧ (parseMethodDescriptor (yX11_ask).desc).map (fun d => d.parameters.length) = some 2 := by decide +kernel
theorem gc448 : GoodIn WL (wsV "FuseBoxLaw" 150 "FuseBoxModel" yX12_ask (Cond.code yX12_ask cX12_ask 4 (some .int) :: WL)) := gin_V wd1063 wd1064 wd1065 wd533 wd1066
theorem gc449 : (yX12_ask).cls = "FuseBoxModel" ∧ (yX12_ask).cls ≠ "java/lang/invoke/MethodHandle" ∧ (yX12_ask).cls ≠ "java/lang/invoke/VarHandle" ∧ (parseMethodDescriptor (yX12_ask).desc).map (fun d => d.parameters.length) = some 2 := by decide +kernel
theorem gc450 : GoodIn WL (wsV "FuseBoxLaw" 151 "FuseBox" yX11_trace (Cond.code yX11_trace cX11_trace 2 (some .int) :: WL)) := gin_V wd1067 wd1068 wd1069 wd303 wd1070
theorem gc451 : (yX11_trace).cls = "FuseBox" ∧ (yX11_trace).cls ≠ "java/lang/invoke/MethodHandle" ∧ (yX11_trace).cls ≠ "java/lang/invoke/VarHandle" ∧ (parseMethodDescriptor (yX11_trace).desc).map (fun d => d.parameters.length) = some 1 := by decide +kernel
theorem gc452 : GoodIn WL (wsV "FuseBoxLaw" 154 "FuseBoxModel" yX12_trace (Cond.code yX12_trace cX12_trace 2 (some .int) :: WL)) := gin_V wd1071 wd1072 wd1073 wd533 wd1074
theorem gc453 : (yX12_trace).cls = "FuseBoxModel" ∧ (yX12_trace).cls ≠ "java/lang/invoke/MethodHandle" ∧ (yX12_trace).cls ≠ "java/lang/invoke/VarHandle" ∧ (parseMethodDescriptor (yX12_trace).desc).map (fun d => d.parameters.length) = some 1 := by decide +kernel
theorem gc454 : GoodIn WL (wsV "FuseBoxLaw" 155 "FuseBox" yX11_count (Cond.code yX11_count cX11_count 2 (some .int) :: WL)) := gin_V wd1075 wd1076 wd1077 wd303 wd1078
theorem gc455 : (yX11_count).cls = "FuseBox" ∧ (yX11_count).cls ≠ "java/lang/invoke/MethodHandle" ∧ (yX11_count).cls ≠ "java/lang/invoke/VarHandle" ∧ (parseMethodDescriptor (yX11_count).desc).map (fun d => d.parameters.length) = some 1 := by decide +kernel
theorem gc456 : GoodIn WL (wsV "FuseBoxLaw" 158 "FuseBoxModel" yX12_count (Cond.code yX12_count cX12_count 4 (some .int) :: WL)) := gin_V wd1079 wd1080 wd1081 wd533 wd1082
theorem gc457 : (yX12_count).cls = "FuseBoxModel" ∧ (yX12_count).cls ≠ "java/lang/invoke/MethodHandle" ∧ (yX12_count).cls ≠ "java/lang/invoke/VarHandle" ∧ (parseMethodDescriptor (yX12_count).desc).map (fun d => d.parameters.length) = some 1 := by decide +kernel
theorem gc458 : GoodIn WL (wsV "FuseBoxLaw" 159 "FuseBox" yX11_status (Cond.code yX11_status cX11_status 1 (some .int) :: WL)) := gin_V wd1083 wd1084 wd1085 wd303 wd1086
theorem gc459 : (yX11_status).cls = "FuseBox" ∧ (yX11_status).cls ≠ "java/lang/invoke/MethodHandle" ∧ (yX11_status).cls ≠ "java/lang/invoke/VarHandle" ∧ (parseMethodDescriptor (yX11_status).desc).map (fun d => d.parameters.length) = some 0 := by decide +kernel
theorem gc460 : GoodIn WL (wsV "FuseBoxLaw" 162 "FuseBoxModel" yX12_status (Cond.code yX12_status cX12_status 1 (some .int) :: WL)) := gin_V wd1087 wd1088 wd1089 wd533 wd1090
theorem gc461 : (yX12_status).cls = "FuseBoxModel" ∧ (yX12_status).cls ≠ "java/lang/invoke/MethodHandle" ∧ (yX12_status).cls ≠ "java/lang/invoke/VarHandle" ∧ (parseMethodDescriptor (yX12_status).desc).map (fun d => d.parameters.length) = some 0 := by decide +kernel
theorem dL_law_0 : decode cL_law 0 = .ok (.new 7, 3) := by decide +kernel
theorem dL_law_3 : decode cL_law 3 = .ok (.dup, 1) := by decide +kernel
theorem dL_law_4 : decode cL_law 4 = .ok (.invokespecial 9, 3) := by decide +kernel
theorem dL_law_7 : decode cL_law 7 = .ok (.astore_n 1, 1) := by decide +kernel
theorem dL_law_8 : decode cL_law 8 = .ok (.new 10, 3) := by decide +kernel
theorem dL_law_11 : decode cL_law 11 = .ok (.dup, 1) := by decide +kernel
theorem dL_law_12 : decode cL_law 12 = .ok (.invokespecial 12, 3) := by decide +kernel
theorem dL_law_15 : decode cL_law 15 = .ok (.astore_n 2, 1) := by decide +kernel
theorem dL_law_16 : decode cL_law 16 = .ok (.iconst 0, 1) := by decide +kernel
theorem dL_law_17 : decode cL_law 17 = .ok (.istore_n 3, 1) := by decide +kernel
theorem dL_law_18 : decode cL_law 18 = .ok (.iload_n 3, 1) := by decide +kernel
theorem dL_law_19 : decode cL_law 19 = .ok (.aload_n 0, 1) := by decide +kernel
theorem dL_law_20 : decode cL_law 20 = .ok (.arraylength, 1) := by decide +kernel
theorem dL_law_21 : decode cL_law 21 = .ok (.bipush 6, 2) := by decide +kernel
theorem dL_law_23 : decode cL_law 23 = .ok (.isub, 1) := by decide +kernel
theorem dL_law_24 : decode cL_law 24 = .ok (.if_icmp .gt 1262, 3) := by decide +kernel
theorem dL_law_27 : decode cL_law 27 = .ok (.aload_n 0, 1) := by decide +kernel
theorem dL_law_28 : decode cL_law 28 = .ok (.iload_n 3, 1) := by decide +kernel
theorem dL_law_29 : decode cL_law 29 = .ok (.iaload, 1) := by decide +kernel
theorem dL_law_30 : decode cL_law 30 = .ok (.bipush 63, 2) := by decide +kernel
theorem dL_law_32 : decode cL_law 32 = .ok (.iand, 1) := by decide +kernel
theorem dL_law_33 : decode cL_law 33 = .ok (.tableswitch 1247 0 35 #[159, 202, 245, 308, 331, 354, 367, 380, 403, 436, 469, 492, 505, 538, 551, 584, 617, 650, 683, 706, 719, 762, 795, 828, 861, 894, 957, 1010, 1053, 1076, 1099, 1122, 1155, 1188, 1211, 1234], 159) := by decide +kernel
theorem dL_law_192 : decode cL_law 192 = .ok (.aload_n 1, 1) := by decide +kernel
theorem dL_law_193 : decode cL_law 193 = .ok (.aload_n 0, 1) := by decide +kernel
theorem dL_law_194 : decode cL_law 194 = .ok (.iload_n 3, 1) := by decide +kernel
theorem dL_law_195 : decode cL_law 195 = .ok (.iconst 1, 1) := by decide +kernel
theorem dL_law_196 : decode cL_law 196 = .ok (.iadd, 1) := by decide +kernel
theorem dL_law_197 : decode cL_law 197 = .ok (.iaload, 1) := by decide +kernel
theorem dL_law_198 : decode cL_law 198 = .ok (.aload_n 0, 1) := by decide +kernel
theorem dL_law_199 : decode cL_law 199 = .ok (.iload_n 3, 1) := by decide +kernel
theorem dL_law_200 : decode cL_law 200 = .ok (.iconst 2, 1) := by decide +kernel
theorem dL_law_201 : decode cL_law 201 = .ok (.iadd, 1) := by decide +kernel
theorem dL_law_202 : decode cL_law 202 = .ok (.iaload, 1) := by decide +kernel
theorem dL_law_203 : decode cL_law 203 = .ok (.aload_n 0, 1) := by decide +kernel
theorem dL_law_204 : decode cL_law 204 = .ok (.iload_n 3, 1) := by decide +kernel
theorem dL_law_205 : decode cL_law 205 = .ok (.iconst 3, 1) := by decide +kernel
theorem dL_law_206 : decode cL_law 206 = .ok (.iadd, 1) := by decide +kernel
theorem dL_law_207 : decode cL_law 207 = .ok (.iaload, 1) := by decide +kernel
theorem dL_law_208 : decode cL_law 208 = .ok (.invokevirtual 13, 3) := by decide +kernel
theorem dL_law_211 : decode cL_law 211 = .ok (.aload_n 2, 1) := by decide +kernel
theorem dL_law_212 : decode cL_law 212 = .ok (.aload_n 0, 1) := by decide +kernel
theorem dL_law_213 : decode cL_law 213 = .ok (.iload_n 3, 1) := by decide +kernel
theorem dL_law_214 : decode cL_law 214 = .ok (.iconst 1, 1) := by decide +kernel
theorem dL_law_215 : decode cL_law 215 = .ok (.iadd, 1) := by decide +kernel
theorem dL_law_216 : decode cL_law 216 = .ok (.iaload, 1) := by decide +kernel
theorem dL_law_217 : decode cL_law 217 = .ok (.aload_n 0, 1) := by decide +kernel
theorem dL_law_218 : decode cL_law 218 = .ok (.iload_n 3, 1) := by decide +kernel
theorem dL_law_219 : decode cL_law 219 = .ok (.iconst 2, 1) := by decide +kernel
theorem dL_law_220 : decode cL_law 220 = .ok (.iadd, 1) := by decide +kernel
theorem dL_law_221 : decode cL_law 221 = .ok (.iaload, 1) := by decide +kernel
theorem dL_law_222 : decode cL_law 222 = .ok (.aload_n 0, 1) := by decide +kernel
theorem dL_law_223 : decode cL_law 223 = .ok (.iload_n 3, 1) := by decide +kernel
theorem dL_law_224 : decode cL_law 224 = .ok (.iconst 3, 1) := by decide +kernel
theorem dL_law_225 : decode cL_law 225 = .ok (.iadd, 1) := by decide +kernel
theorem dL_law_226 : decode cL_law 226 = .ok (.iaload, 1) := by decide +kernel
theorem dL_law_227 : decode cL_law 227 = .ok (.invokevirtual 17, 3) := by decide +kernel
theorem dL_law_230 : decode cL_law 230 = .ok (.if_icmp .eq 1050, 3) := by decide +kernel
theorem dL_law_233 : decode cL_law 233 = .ok (.iconst 0, 1) := by decide +kernel
theorem dL_law_234 : decode cL_law 234 = .ok (.ireturn, 1) := by decide +kernel
theorem dL_law_235 : decode cL_law 235 = .ok (.aload_n 1, 1) := by decide +kernel
theorem dL_law_236 : decode cL_law 236 = .ok (.aload_n 0, 1) := by decide +kernel
theorem dL_law_237 : decode cL_law 237 = .ok (.iload_n 3, 1) := by decide +kernel
theorem dL_law_238 : decode cL_law 238 = .ok (.iconst 1, 1) := by decide +kernel
theorem dL_law_239 : decode cL_law 239 = .ok (.iadd, 1) := by decide +kernel
theorem dL_law_240 : decode cL_law 240 = .ok (.iaload, 1) := by decide +kernel
theorem dL_law_241 : decode cL_law 241 = .ok (.aload_n 0, 1) := by decide +kernel
theorem dL_law_242 : decode cL_law 242 = .ok (.iload_n 3, 1) := by decide +kernel
theorem dL_law_243 : decode cL_law 243 = .ok (.iconst 2, 1) := by decide +kernel
theorem dL_law_244 : decode cL_law 244 = .ok (.iadd, 1) := by decide +kernel
theorem dL_law_245 : decode cL_law 245 = .ok (.iaload, 1) := by decide +kernel
theorem dL_law_246 : decode cL_law 246 = .ok (.aload_n 0, 1) := by decide +kernel
theorem dL_law_247 : decode cL_law 247 = .ok (.iload_n 3, 1) := by decide +kernel
theorem dL_law_248 : decode cL_law 248 = .ok (.iconst 3, 1) := by decide +kernel
theorem dL_law_249 : decode cL_law 249 = .ok (.iadd, 1) := by decide +kernel
theorem dL_law_250 : decode cL_law 250 = .ok (.iaload, 1) := by decide +kernel
theorem dL_law_251 : decode cL_law 251 = .ok (.invokevirtual 18, 3) := by decide +kernel
theorem dL_law_254 : decode cL_law 254 = .ok (.aload_n 2, 1) := by decide +kernel
theorem dL_law_255 : decode cL_law 255 = .ok (.aload_n 0, 1) := by decide +kernel
theorem dL_law_256 : decode cL_law 256 = .ok (.iload_n 3, 1) := by decide +kernel
theorem dL_law_257 : decode cL_law 257 = .ok (.iconst 1, 1) := by decide +kernel
theorem dL_law_258 : decode cL_law 258 = .ok (.iadd, 1) := by decide +kernel
theorem dL_law_259 : decode cL_law 259 = .ok (.iaload, 1) := by decide +kernel
theorem dL_law_260 : decode cL_law 260 = .ok (.aload_n 0, 1) := by decide +kernel
theorem dL_law_261 : decode cL_law 261 = .ok (.iload_n 3, 1) := by decide +kernel
theorem dL_law_262 : decode cL_law 262 = .ok (.iconst 2, 1) := by decide +kernel
theorem dL_law_263 : decode cL_law 263 = .ok (.iadd, 1) := by decide +kernel
theorem dL_law_264 : decode cL_law 264 = .ok (.iaload, 1) := by decide +kernel
theorem dL_law_265 : decode cL_law 265 = .ok (.aload_n 0, 1) := by decide +kernel
theorem dL_law_266 : decode cL_law 266 = .ok (.iload_n 3, 1) := by decide +kernel
theorem dL_law_267 : decode cL_law 267 = .ok (.iconst 3, 1) := by decide +kernel
theorem dL_law_268 : decode cL_law 268 = .ok (.iadd, 1) := by decide +kernel
theorem dL_law_269 : decode cL_law 269 = .ok (.iaload, 1) := by decide +kernel
theorem dL_law_270 : decode cL_law 270 = .ok (.invokevirtual 21, 3) := by decide +kernel
theorem dL_law_273 : decode cL_law 273 = .ok (.if_icmp .eq 1007, 3) := by decide +kernel
theorem dL_law_276 : decode cL_law 276 = .ok (.iconst 0, 1) := by decide +kernel
theorem dL_law_277 : decode cL_law 277 = .ok (.ireturn, 1) := by decide +kernel
theorem dL_law_278 : decode cL_law 278 = .ok (.aload_n 1, 1) := by decide +kernel
theorem dL_law_279 : decode cL_law 279 = .ok (.aload_n 0, 1) := by decide +kernel
theorem dL_law_280 : decode cL_law 280 = .ok (.iload_n 3, 1) := by decide +kernel
theorem dL_law_281 : decode cL_law 281 = .ok (.iconst 1, 1) := by decide +kernel
theorem dL_law_282 : decode cL_law 282 = .ok (.iadd, 1) := by decide +kernel
theorem dL_law_283 : decode cL_law 283 = .ok (.iaload, 1) := by decide +kernel
theorem dL_law_284 : decode cL_law 284 = .ok (.aload_n 0, 1) := by decide +kernel
theorem dL_law_285 : decode cL_law 285 = .ok (.iload_n 3, 1) := by decide +kernel
theorem dL_law_286 : decode cL_law 286 = .ok (.iconst 2, 1) := by decide +kernel
theorem dL_law_287 : decode cL_law 287 = .ok (.iadd, 1) := by decide +kernel
theorem dL_law_288 : decode cL_law 288 = .ok (.iaload, 1) := by decide +kernel
theorem dL_law_289 : decode cL_law 289 = .ok (.aload_n 0, 1) := by decide +kernel
theorem dL_law_290 : decode cL_law 290 = .ok (.iload_n 3, 1) := by decide +kernel
theorem dL_law_291 : decode cL_law 291 = .ok (.iconst 3, 1) := by decide +kernel
theorem dL_law_292 : decode cL_law 292 = .ok (.iadd, 1) := by decide +kernel
theorem dL_law_293 : decode cL_law 293 = .ok (.iaload, 1) := by decide +kernel
theorem dL_law_294 : decode cL_law 294 = .ok (.aload_n 0, 1) := by decide +kernel
theorem dL_law_295 : decode cL_law 295 = .ok (.iload_n 3, 1) := by decide +kernel
theorem dL_law_296 : decode cL_law 296 = .ok (.iconst 4, 1) := by decide +kernel
theorem dL_law_297 : decode cL_law 297 = .ok (.iadd, 1) := by decide +kernel
theorem dL_law_298 : decode cL_law 298 = .ok (.iaload, 1) := by decide +kernel
theorem dL_law_299 : decode cL_law 299 = .ok (.aload_n 0, 1) := by decide +kernel
theorem dL_law_300 : decode cL_law 300 = .ok (.iload_n 3, 1) := by decide +kernel
theorem dL_law_301 : decode cL_law 301 = .ok (.iconst 5, 1) := by decide +kernel
theorem dL_law_302 : decode cL_law 302 = .ok (.iadd, 1) := by decide +kernel
theorem dL_law_303 : decode cL_law 303 = .ok (.iaload, 1) := by decide +kernel
theorem dL_law_304 : decode cL_law 304 = .ok (.invokevirtual 22, 3) := by decide +kernel
theorem dL_law_307 : decode cL_law 307 = .ok (.aload_n 2, 1) := by decide +kernel
theorem dL_law_308 : decode cL_law 308 = .ok (.aload_n 0, 1) := by decide +kernel
theorem dL_law_309 : decode cL_law 309 = .ok (.iload_n 3, 1) := by decide +kernel
theorem dL_law_310 : decode cL_law 310 = .ok (.iconst 1, 1) := by decide +kernel
theorem dL_law_311 : decode cL_law 311 = .ok (.iadd, 1) := by decide +kernel
theorem dL_law_312 : decode cL_law 312 = .ok (.iaload, 1) := by decide +kernel
theorem dL_law_313 : decode cL_law 313 = .ok (.aload_n 0, 1) := by decide +kernel
theorem dL_law_314 : decode cL_law 314 = .ok (.iload_n 3, 1) := by decide +kernel
theorem dL_law_315 : decode cL_law 315 = .ok (.iconst 2, 1) := by decide +kernel
theorem dL_law_316 : decode cL_law 316 = .ok (.iadd, 1) := by decide +kernel
theorem dL_law_317 : decode cL_law 317 = .ok (.iaload, 1) := by decide +kernel
theorem dL_law_318 : decode cL_law 318 = .ok (.aload_n 0, 1) := by decide +kernel
theorem dL_law_319 : decode cL_law 319 = .ok (.iload_n 3, 1) := by decide +kernel
theorem dL_law_320 : decode cL_law 320 = .ok (.iconst 3, 1) := by decide +kernel
theorem dL_law_321 : decode cL_law 321 = .ok (.iadd, 1) := by decide +kernel
theorem dL_law_322 : decode cL_law 322 = .ok (.iaload, 1) := by decide +kernel
theorem dL_law_323 : decode cL_law 323 = .ok (.aload_n 0, 1) := by decide +kernel
theorem dL_law_324 : decode cL_law 324 = .ok (.iload_n 3, 1) := by decide +kernel
theorem dL_law_325 : decode cL_law 325 = .ok (.iconst 4, 1) := by decide +kernel
theorem dL_law_326 : decode cL_law 326 = .ok (.iadd, 1) := by decide +kernel
theorem dL_law_327 : decode cL_law 327 = .ok (.iaload, 1) := by decide +kernel
theorem dL_law_328 : decode cL_law 328 = .ok (.aload_n 0, 1) := by decide +kernel
theorem dL_law_329 : decode cL_law 329 = .ok (.iload_n 3, 1) := by decide +kernel
theorem dL_law_330 : decode cL_law 330 = .ok (.iconst 5, 1) := by decide +kernel
theorem dL_law_331 : decode cL_law 331 = .ok (.iadd, 1) := by decide +kernel
theorem dL_law_332 : decode cL_law 332 = .ok (.iaload, 1) := by decide +kernel
theorem dL_law_333 : decode cL_law 333 = .ok (.invokevirtual 26, 3) := by decide +kernel
theorem dL_law_336 : decode cL_law 336 = .ok (.if_icmp .eq 944, 3) := by decide +kernel
theorem dL_law_339 : decode cL_law 339 = .ok (.iconst 0, 1) := by decide +kernel
theorem dL_law_340 : decode cL_law 340 = .ok (.ireturn, 1) := by decide +kernel
theorem dL_law_341 : decode cL_law 341 = .ok (.aload_n 1, 1) := by decide +kernel
theorem dL_law_342 : decode cL_law 342 = .ok (.aload_n 0, 1) := by decide +kernel
theorem dL_law_343 : decode cL_law 343 = .ok (.iload_n 3, 1) := by decide +kernel
theorem dL_law_344 : decode cL_law 344 = .ok (.iconst 1, 1) := by decide +kernel
theorem dL_law_345 : decode cL_law 345 = .ok (.iadd, 1) := by decide +kernel
theorem dL_law_346 : decode cL_law 346 = .ok (.iaload, 1) := by decide +kernel
theorem dL_law_347 : decode cL_law 347 = .ok (.invokevirtual 27, 3) := by decide +kernel
theorem dL_law_350 : decode cL_law 350 = .ok (.aload_n 2, 1) := by decide +kernel
theorem dL_law_351 : decode cL_law 351 = .ok (.aload_n 0, 1) := by decide +kernel
theorem dL_law_352 : decode cL_law 352 = .ok (.iload_n 3, 1) := by decide +kernel
theorem dL_law_353 : decode cL_law 353 = .ok (.iconst 1, 1) := by decide +kernel
theorem dL_law_354 : decode cL_law 354 = .ok (.iadd, 1) := by decide +kernel
theorem dL_law_355 : decode cL_law 355 = .ok (.iaload, 1) := by decide +kernel
theorem dL_law_356 : decode cL_law 356 = .ok (.invokevirtual 31, 3) := by decide +kernel
theorem dL_law_359 : decode cL_law 359 = .ok (.if_icmp .eq 921, 3) := by decide +kernel
theorem dL_law_362 : decode cL_law 362 = .ok (.iconst 0, 1) := by decide +kernel
theorem dL_law_363 : decode cL_law 363 = .ok (.ireturn, 1) := by decide +kernel
theorem dL_law_364 : decode cL_law 364 = .ok (.aload_n 1, 1) := by decide +kernel
theorem dL_law_365 : decode cL_law 365 = .ok (.aload_n 0, 1) := by decide +kernel
theorem dL_law_366 : decode cL_law 366 = .ok (.iload_n 3, 1) := by decide +kernel
theorem dL_law_367 : decode cL_law 367 = .ok (.iconst 1, 1) := by decide +kernel
theorem dL_law_368 : decode cL_law 368 = .ok (.iadd, 1) := by decide +kernel
theorem dL_law_369 : decode cL_law 369 = .ok (.iaload, 1) := by decide +kernel
theorem dL_law_370 : decode cL_law 370 = .ok (.invokevirtual 32, 3) := by decide +kernel
theorem dL_law_373 : decode cL_law 373 = .ok (.aload_n 2, 1) := by decide +kernel
theorem dL_law_374 : decode cL_law 374 = .ok (.aload_n 0, 1) := by decide +kernel
theorem dL_law_375 : decode cL_law 375 = .ok (.iload_n 3, 1) := by decide +kernel
theorem dL_law_376 : decode cL_law 376 = .ok (.iconst 1, 1) := by decide +kernel
theorem dL_law_377 : decode cL_law 377 = .ok (.iadd, 1) := by decide +kernel
theorem dL_law_378 : decode cL_law 378 = .ok (.iaload, 1) := by decide +kernel
theorem dL_law_379 : decode cL_law 379 = .ok (.invokevirtual 35, 3) := by decide +kernel
theorem dL_law_382 : decode cL_law 382 = .ok (.if_icmp .eq 898, 3) := by decide +kernel
theorem dL_law_385 : decode cL_law 385 = .ok (.iconst 0, 1) := by decide +kernel
theorem dL_law_386 : decode cL_law 386 = .ok (.ireturn, 1) := by decide +kernel
theorem dL_law_387 : decode cL_law 387 = .ok (.aload_n 1, 1) := by decide +kernel
theorem dL_law_388 : decode cL_law 388 = .ok (.invokevirtual 36, 3) := by decide +kernel
theorem dL_law_391 : decode cL_law 391 = .ok (.aload_n 2, 1) := by decide +kernel
theorem dL_law_392 : decode cL_law 392 = .ok (.invokevirtual 40, 3) := by decide +kernel
theorem dL_law_395 : decode cL_law 395 = .ok (.if_icmp .eq 885, 3) := by decide +kernel
theorem dL_law_398 : decode cL_law 398 = .ok (.iconst 0, 1) := by decide +kernel
theorem dL_law_399 : decode cL_law 399 = .ok (.ireturn, 1) := by decide +kernel
theorem dL_law_400 : decode cL_law 400 = .ok (.aload_n 1, 1) := by decide +kernel
theorem dL_law_401 : decode cL_law 401 = .ok (.invokevirtual 41, 3) := by decide +kernel
theorem dL_law_404 : decode cL_law 404 = .ok (.aload_n 2, 1) := by decide +kernel
theorem dL_law_405 : decode cL_law 405 = .ok (.invokevirtual 44, 3) := by decide +kernel
theorem dL_law_408 : decode cL_law 408 = .ok (.if_icmp .eq 872, 3) := by decide +kernel
theorem dL_law_411 : decode cL_law 411 = .ok (.iconst 0, 1) := by decide +kernel
theorem dL_law_412 : decode cL_law 412 = .ok (.ireturn, 1) := by decide +kernel
theorem dL_law_413 : decode cL_law 413 = .ok (.aload_n 1, 1) := by decide +kernel
theorem dL_law_414 : decode cL_law 414 = .ok (.aload_n 0, 1) := by decide +kernel
theorem dL_law_415 : decode cL_law 415 = .ok (.iload_n 3, 1) := by decide +kernel
theorem dL_law_416 : decode cL_law 416 = .ok (.iconst 1, 1) := by decide +kernel
theorem dL_law_417 : decode cL_law 417 = .ok (.iadd, 1) := by decide +kernel
theorem dL_law_418 : decode cL_law 418 = .ok (.iaload, 1) := by decide +kernel
theorem dL_law_419 : decode cL_law 419 = .ok (.invokevirtual 45, 3) := by decide +kernel
theorem dL_law_422 : decode cL_law 422 = .ok (.aload_n 2, 1) := by decide +kernel
theorem dL_law_423 : decode cL_law 423 = .ok (.aload_n 0, 1) := by decide +kernel
theorem dL_law_424 : decode cL_law 424 = .ok (.iload_n 3, 1) := by decide +kernel
theorem dL_law_425 : decode cL_law 425 = .ok (.iconst 1, 1) := by decide +kernel
theorem dL_law_426 : decode cL_law 426 = .ok (.iadd, 1) := by decide +kernel
theorem dL_law_427 : decode cL_law 427 = .ok (.iaload, 1) := by decide +kernel
theorem dL_law_428 : decode cL_law 428 = .ok (.invokevirtual 48, 3) := by decide +kernel
theorem dL_law_431 : decode cL_law 431 = .ok (.if_icmp .eq 849, 3) := by decide +kernel
theorem dL_law_434 : decode cL_law 434 = .ok (.iconst 0, 1) := by decide +kernel
theorem dL_law_435 : decode cL_law 435 = .ok (.ireturn, 1) := by decide +kernel
theorem dL_law_436 : decode cL_law 436 = .ok (.aload_n 1, 1) := by decide +kernel
theorem dL_law_437 : decode cL_law 437 = .ok (.aload_n 0, 1) := by decide +kernel
theorem dL_law_438 : decode cL_law 438 = .ok (.iload_n 3, 1) := by decide +kernel
theorem dL_law_439 : decode cL_law 439 = .ok (.iconst 1, 1) := by decide +kernel
theorem dL_law_440 : decode cL_law 440 = .ok (.iadd, 1) := by decide +kernel
theorem dL_law_441 : decode cL_law 441 = .ok (.iaload, 1) := by decide +kernel
theorem dL_law_442 : decode cL_law 442 = .ok (.aload_n 0, 1) := by decide +kernel
theorem dL_law_443 : decode cL_law 443 = .ok (.iload_n 3, 1) := by decide +kernel
theorem dL_law_444 : decode cL_law 444 = .ok (.iconst 2, 1) := by decide +kernel
theorem dL_law_445 : decode cL_law 445 = .ok (.iadd, 1) := by decide +kernel
theorem dL_law_446 : decode cL_law 446 = .ok (.iaload, 1) := by decide +kernel
theorem dL_law_447 : decode cL_law 447 = .ok (.invokevirtual 49, 3) := by decide +kernel
theorem dL_law_450 : decode cL_law 450 = .ok (.aload_n 2, 1) := by decide +kernel
theorem dL_law_451 : decode cL_law 451 = .ok (.aload_n 0, 1) := by decide +kernel
theorem dL_law_452 : decode cL_law 452 = .ok (.iload_n 3, 1) := by decide +kernel
theorem dL_law_453 : decode cL_law 453 = .ok (.iconst 1, 1) := by decide +kernel
theorem dL_law_454 : decode cL_law 454 = .ok (.iadd, 1) := by decide +kernel
theorem dL_law_455 : decode cL_law 455 = .ok (.iaload, 1) := by decide +kernel
theorem dL_law_456 : decode cL_law 456 = .ok (.aload_n 0, 1) := by decide +kernel
theorem dL_law_457 : decode cL_law 457 = .ok (.iload_n 3, 1) := by decide +kernel
theorem dL_law_458 : decode cL_law 458 = .ok (.iconst 2, 1) := by decide +kernel
theorem dL_law_459 : decode cL_law 459 = .ok (.iadd, 1) := by decide +kernel
theorem dL_law_460 : decode cL_law 460 = .ok (.iaload, 1) := by decide +kernel
theorem dL_law_461 : decode cL_law 461 = .ok (.invokevirtual 53, 3) := by decide +kernel
theorem dL_law_464 : decode cL_law 464 = .ok (.if_icmp .eq 816, 3) := by decide +kernel
theorem dL_law_467 : decode cL_law 467 = .ok (.iconst 0, 1) := by decide +kernel
theorem dL_law_468 : decode cL_law 468 = .ok (.ireturn, 1) := by decide +kernel
theorem dL_law_469 : decode cL_law 469 = .ok (.aload_n 1, 1) := by decide +kernel
theorem dL_law_470 : decode cL_law 470 = .ok (.aload_n 0, 1) := by decide +kernel
theorem dL_law_471 : decode cL_law 471 = .ok (.iload_n 3, 1) := by decide +kernel
theorem dL_law_472 : decode cL_law 472 = .ok (.iconst 1, 1) := by decide +kernel
theorem dL_law_473 : decode cL_law 473 = .ok (.iadd, 1) := by decide +kernel
theorem dL_law_474 : decode cL_law 474 = .ok (.iaload, 1) := by decide +kernel
theorem dL_law_475 : decode cL_law 475 = .ok (.aload_n 0, 1) := by decide +kernel
theorem dL_law_476 : decode cL_law 476 = .ok (.iload_n 3, 1) := by decide +kernel
theorem dL_law_477 : decode cL_law 477 = .ok (.iconst 2, 1) := by decide +kernel
theorem dL_law_478 : decode cL_law 478 = .ok (.iadd, 1) := by decide +kernel
theorem dL_law_479 : decode cL_law 479 = .ok (.iaload, 1) := by decide +kernel
theorem dL_law_480 : decode cL_law 480 = .ok (.invokevirtual 54, 3) := by decide +kernel
theorem dL_law_483 : decode cL_law 483 = .ok (.aload_n 2, 1) := by decide +kernel
theorem dL_law_484 : decode cL_law 484 = .ok (.aload_n 0, 1) := by decide +kernel
theorem dL_law_485 : decode cL_law 485 = .ok (.iload_n 3, 1) := by decide +kernel
theorem dL_law_486 : decode cL_law 486 = .ok (.iconst 1, 1) := by decide +kernel
theorem dL_law_487 : decode cL_law 487 = .ok (.iadd, 1) := by decide +kernel
theorem dL_law_488 : decode cL_law 488 = .ok (.iaload, 1) := by decide +kernel
theorem dL_law_489 : decode cL_law 489 = .ok (.aload_n 0, 1) := by decide +kernel
theorem dL_law_490 : decode cL_law 490 = .ok (.iload_n 3, 1) := by decide +kernel
theorem dL_law_491 : decode cL_law 491 = .ok (.iconst 2, 1) := by decide +kernel
theorem dL_law_492 : decode cL_law 492 = .ok (.iadd, 1) := by decide +kernel
theorem dL_law_493 : decode cL_law 493 = .ok (.iaload, 1) := by decide +kernel
theorem dL_law_494 : decode cL_law 494 = .ok (.invokevirtual 57, 3) := by decide +kernel
theorem dL_law_497 : decode cL_law 497 = .ok (.if_icmp .eq 783, 3) := by decide +kernel
theorem dL_law_500 : decode cL_law 500 = .ok (.iconst 0, 1) := by decide +kernel
theorem dL_law_501 : decode cL_law 501 = .ok (.ireturn, 1) := by decide +kernel
theorem dL_law_502 : decode cL_law 502 = .ok (.aload_n 1, 1) := by decide +kernel
theorem dL_law_503 : decode cL_law 503 = .ok (.aload_n 0, 1) := by decide +kernel
theorem dL_law_504 : decode cL_law 504 = .ok (.iload_n 3, 1) := by decide +kernel
theorem dL_law_505 : decode cL_law 505 = .ok (.iconst 1, 1) := by decide +kernel
theorem dL_law_506 : decode cL_law 506 = .ok (.iadd, 1) := by decide +kernel
theorem dL_law_507 : decode cL_law 507 = .ok (.iaload, 1) := by decide +kernel
theorem dL_law_508 : decode cL_law 508 = .ok (.invokevirtual 58, 3) := by decide +kernel
theorem dL_law_511 : decode cL_law 511 = .ok (.aload_n 2, 1) := by decide +kernel
theorem dL_law_512 : decode cL_law 512 = .ok (.aload_n 0, 1) := by decide +kernel
theorem dL_law_513 : decode cL_law 513 = .ok (.iload_n 3, 1) := by decide +kernel
theorem dL_law_514 : decode cL_law 514 = .ok (.iconst 1, 1) := by decide +kernel
theorem dL_law_515 : decode cL_law 515 = .ok (.iadd, 1) := by decide +kernel
theorem dL_law_516 : decode cL_law 516 = .ok (.iaload, 1) := by decide +kernel
theorem dL_law_517 : decode cL_law 517 = .ok (.invokevirtual 61, 3) := by decide +kernel
theorem dL_law_520 : decode cL_law 520 = .ok (.if_icmp .eq 760, 3) := by decide +kernel
theorem dL_law_523 : decode cL_law 523 = .ok (.iconst 0, 1) := by decide +kernel
theorem dL_law_524 : decode cL_law 524 = .ok (.ireturn, 1) := by decide +kernel
theorem dL_law_525 : decode cL_law 525 = .ok (.aload_n 1, 1) := by decide +kernel
theorem dL_law_526 : decode cL_law 526 = .ok (.invokevirtual 62, 3) := by decide +kernel
theorem dL_law_529 : decode cL_law 529 = .ok (.aload_n 2, 1) := by decide +kernel
theorem dL_law_530 : decode cL_law 530 = .ok (.invokevirtual 65, 3) := by decide +kernel
theorem dL_law_533 : decode cL_law 533 = .ok (.if_icmp .eq 747, 3) := by decide +kernel
theorem dL_law_536 : decode cL_law 536 = .ok (.iconst 0, 1) := by decide +kernel
theorem dL_law_537 : decode cL_law 537 = .ok (.ireturn, 1) := by decide +kernel
theorem dL_law_538 : decode cL_law 538 = .ok (.aload_n 1, 1) := by decide +kernel
theorem dL_law_539 : decode cL_law 539 = .ok (.aload_n 0, 1) := by decide +kernel
theorem dL_law_540 : decode cL_law 540 = .ok (.iload_n 3, 1) := by decide +kernel
theorem dL_law_541 : decode cL_law 541 = .ok (.iconst 1, 1) := by decide +kernel
theorem dL_law_542 : decode cL_law 542 = .ok (.iadd, 1) := by decide +kernel
theorem dL_law_543 : decode cL_law 543 = .ok (.iaload, 1) := by decide +kernel
theorem dL_law_544 : decode cL_law 544 = .ok (.aload_n 0, 1) := by decide +kernel
theorem dL_law_545 : decode cL_law 545 = .ok (.iload_n 3, 1) := by decide +kernel
theorem dL_law_546 : decode cL_law 546 = .ok (.iconst 2, 1) := by decide +kernel
theorem dL_law_547 : decode cL_law 547 = .ok (.iadd, 1) := by decide +kernel
theorem dL_law_548 : decode cL_law 548 = .ok (.iaload, 1) := by decide +kernel
theorem dL_law_549 : decode cL_law 549 = .ok (.invokevirtual 66, 3) := by decide +kernel
theorem dL_law_552 : decode cL_law 552 = .ok (.aload_n 2, 1) := by decide +kernel
theorem dL_law_553 : decode cL_law 553 = .ok (.aload_n 0, 1) := by decide +kernel
theorem dL_law_554 : decode cL_law 554 = .ok (.iload_n 3, 1) := by decide +kernel
theorem dL_law_555 : decode cL_law 555 = .ok (.iconst 1, 1) := by decide +kernel
theorem dL_law_556 : decode cL_law 556 = .ok (.iadd, 1) := by decide +kernel
theorem dL_law_557 : decode cL_law 557 = .ok (.iaload, 1) := by decide +kernel
theorem dL_law_558 : decode cL_law 558 = .ok (.aload_n 0, 1) := by decide +kernel
theorem dL_law_559 : decode cL_law 559 = .ok (.iload_n 3, 1) := by decide +kernel
theorem dL_law_560 : decode cL_law 560 = .ok (.iconst 2, 1) := by decide +kernel
theorem dL_law_561 : decode cL_law 561 = .ok (.iadd, 1) := by decide +kernel
theorem dL_law_562 : decode cL_law 562 = .ok (.iaload, 1) := by decide +kernel
theorem dL_law_563 : decode cL_law 563 = .ok (.invokevirtual 69, 3) := by decide +kernel
theorem dL_law_566 : decode cL_law 566 = .ok (.if_icmp .eq 714, 3) := by decide +kernel
theorem dL_law_569 : decode cL_law 569 = .ok (.iconst 0, 1) := by decide +kernel
theorem dL_law_570 : decode cL_law 570 = .ok (.ireturn, 1) := by decide +kernel
theorem dL_law_571 : decode cL_law 571 = .ok (.aload_n 1, 1) := by decide +kernel
theorem dL_law_572 : decode cL_law 572 = .ok (.invokevirtual 70, 3) := by decide +kernel
theorem dL_law_575 : decode cL_law 575 = .ok (.aload_n 2, 1) := by decide +kernel
theorem dL_law_576 : decode cL_law 576 = .ok (.invokevirtual 73, 3) := by decide +kernel
theorem dL_law_579 : decode cL_law 579 = .ok (.if_icmp .eq 701, 3) := by decide +kernel
theorem dL_law_582 : decode cL_law 582 = .ok (.iconst 0, 1) := by decide +kernel
theorem dL_law_583 : decode cL_law 583 = .ok (.ireturn, 1) := by decide +kernel
theorem dL_law_584 : decode cL_law 584 = .ok (.aload_n 1, 1) := by decide +kernel
theorem dL_law_585 : decode cL_law 585 = .ok (.aload_n 0, 1) := by decide +kernel
theorem dL_law_586 : decode cL_law 586 = .ok (.iload_n 3, 1) := by decide +kernel
theorem dL_law_587 : decode cL_law 587 = .ok (.iconst 1, 1) := by decide +kernel
theorem dL_law_588 : decode cL_law 588 = .ok (.iadd, 1) := by decide +kernel
theorem dL_law_589 : decode cL_law 589 = .ok (.iaload, 1) := by decide +kernel
theorem dL_law_590 : decode cL_law 590 = .ok (.aload_n 0, 1) := by decide +kernel
theorem dL_law_591 : decode cL_law 591 = .ok (.iload_n 3, 1) := by decide +kernel
theorem dL_law_592 : decode cL_law 592 = .ok (.iconst 2, 1) := by decide +kernel
theorem dL_law_593 : decode cL_law 593 = .ok (.iadd, 1) := by decide +kernel
theorem dL_law_594 : decode cL_law 594 = .ok (.iaload, 1) := by decide +kernel
theorem dL_law_595 : decode cL_law 595 = .ok (.invokevirtual 74, 3) := by decide +kernel
theorem dL_law_598 : decode cL_law 598 = .ok (.aload_n 2, 1) := by decide +kernel
theorem dL_law_599 : decode cL_law 599 = .ok (.aload_n 0, 1) := by decide +kernel
theorem dL_law_600 : decode cL_law 600 = .ok (.iload_n 3, 1) := by decide +kernel
theorem dL_law_601 : decode cL_law 601 = .ok (.iconst 1, 1) := by decide +kernel
theorem dL_law_602 : decode cL_law 602 = .ok (.iadd, 1) := by decide +kernel
theorem dL_law_603 : decode cL_law 603 = .ok (.iaload, 1) := by decide +kernel
theorem dL_law_604 : decode cL_law 604 = .ok (.aload_n 0, 1) := by decide +kernel
theorem dL_law_605 : decode cL_law 605 = .ok (.iload_n 3, 1) := by decide +kernel
theorem dL_law_606 : decode cL_law 606 = .ok (.iconst 2, 1) := by decide +kernel
theorem dL_law_607 : decode cL_law 607 = .ok (.iadd, 1) := by decide +kernel
theorem dL_law_608 : decode cL_law 608 = .ok (.iaload, 1) := by decide +kernel
theorem dL_law_609 : decode cL_law 609 = .ok (.invokevirtual 77, 3) := by decide +kernel
theorem dL_law_612 : decode cL_law 612 = .ok (.if_icmp .eq 668, 3) := by decide +kernel
theorem dL_law_615 : decode cL_law 615 = .ok (.iconst 0, 1) := by decide +kernel
theorem dL_law_616 : decode cL_law 616 = .ok (.ireturn, 1) := by decide +kernel
theorem dL_law_617 : decode cL_law 617 = .ok (.aload_n 1, 1) := by decide +kernel
theorem dL_law_618 : decode cL_law 618 = .ok (.aload_n 0, 1) := by decide +kernel
theorem dL_law_619 : decode cL_law 619 = .ok (.iload_n 3, 1) := by decide +kernel
theorem dL_law_620 : decode cL_law 620 = .ok (.iconst 1, 1) := by decide +kernel
theorem dL_law_621 : decode cL_law 621 = .ok (.iadd, 1) := by decide +kernel
theorem dL_law_622 : decode cL_law 622 = .ok (.iaload, 1) := by decide +kernel
theorem dL_law_623 : decode cL_law 623 = .ok (.aload_n 0, 1) := by decide +kernel
theorem dL_law_624 : decode cL_law 624 = .ok (.iload_n 3, 1) := by decide +kernel
theorem dL_law_625 : decode cL_law 625 = .ok (.iconst 2, 1) := by decide +kernel
theorem dL_law_626 : decode cL_law 626 = .ok (.iadd, 1) := by decide +kernel
theorem dL_law_627 : decode cL_law 627 = .ok (.iaload, 1) := by decide +kernel
theorem dL_law_628 : decode cL_law 628 = .ok (.invokevirtual 78, 3) := by decide +kernel
theorem dL_law_631 : decode cL_law 631 = .ok (.aload_n 2, 1) := by decide +kernel
theorem dL_law_632 : decode cL_law 632 = .ok (.aload_n 0, 1) := by decide +kernel
theorem dL_law_633 : decode cL_law 633 = .ok (.iload_n 3, 1) := by decide +kernel
theorem dL_law_634 : decode cL_law 634 = .ok (.iconst 1, 1) := by decide +kernel
theorem dL_law_635 : decode cL_law 635 = .ok (.iadd, 1) := by decide +kernel
theorem dL_law_636 : decode cL_law 636 = .ok (.iaload, 1) := by decide +kernel
theorem dL_law_637 : decode cL_law 637 = .ok (.aload_n 0, 1) := by decide +kernel
theorem dL_law_638 : decode cL_law 638 = .ok (.iload_n 3, 1) := by decide +kernel
theorem dL_law_639 : decode cL_law 639 = .ok (.iconst 2, 1) := by decide +kernel
theorem dL_law_640 : decode cL_law 640 = .ok (.iadd, 1) := by decide +kernel
theorem dL_law_641 : decode cL_law 641 = .ok (.iaload, 1) := by decide +kernel
theorem dL_law_642 : decode cL_law 642 = .ok (.invokevirtual 81, 3) := by decide +kernel
theorem dL_law_645 : decode cL_law 645 = .ok (.if_icmp .eq 635, 3) := by decide +kernel
theorem dL_law_648 : decode cL_law 648 = .ok (.iconst 0, 1) := by decide +kernel
theorem dL_law_649 : decode cL_law 649 = .ok (.ireturn, 1) := by decide +kernel
theorem dL_law_650 : decode cL_law 650 = .ok (.aload_n 1, 1) := by decide +kernel
theorem dL_law_651 : decode cL_law 651 = .ok (.aload_n 0, 1) := by decide +kernel
theorem dL_law_652 : decode cL_law 652 = .ok (.iload_n 3, 1) := by decide +kernel
theorem dL_law_653 : decode cL_law 653 = .ok (.iconst 1, 1) := by decide +kernel
theorem dL_law_654 : decode cL_law 654 = .ok (.iadd, 1) := by decide +kernel
theorem dL_law_655 : decode cL_law 655 = .ok (.iaload, 1) := by decide +kernel
theorem dL_law_656 : decode cL_law 656 = .ok (.aload_n 0, 1) := by decide +kernel
theorem dL_law_657 : decode cL_law 657 = .ok (.iload_n 3, 1) := by decide +kernel
theorem dL_law_658 : decode cL_law 658 = .ok (.iconst 2, 1) := by decide +kernel
theorem dL_law_659 : decode cL_law 659 = .ok (.iadd, 1) := by decide +kernel
theorem dL_law_660 : decode cL_law 660 = .ok (.iaload, 1) := by decide +kernel
theorem dL_law_661 : decode cL_law 661 = .ok (.invokevirtual 82, 3) := by decide +kernel
theorem dL_law_664 : decode cL_law 664 = .ok (.aload_n 2, 1) := by decide +kernel
theorem dL_law_665 : decode cL_law 665 = .ok (.aload_n 0, 1) := by decide +kernel
theorem dL_law_666 : decode cL_law 666 = .ok (.iload_n 3, 1) := by decide +kernel
theorem dL_law_667 : decode cL_law 667 = .ok (.iconst 1, 1) := by decide +kernel
theorem dL_law_668 : decode cL_law 668 = .ok (.iadd, 1) := by decide +kernel
theorem dL_law_669 : decode cL_law 669 = .ok (.iaload, 1) := by decide +kernel
theorem dL_law_670 : decode cL_law 670 = .ok (.aload_n 0, 1) := by decide +kernel
theorem dL_law_671 : decode cL_law 671 = .ok (.iload_n 3, 1) := by decide +kernel
theorem dL_law_672 : decode cL_law 672 = .ok (.iconst 2, 1) := by decide +kernel
theorem dL_law_673 : decode cL_law 673 = .ok (.iadd, 1) := by decide +kernel
theorem dL_law_674 : decode cL_law 674 = .ok (.iaload, 1) := by decide +kernel
theorem dL_law_675 : decode cL_law 675 = .ok (.invokevirtual 85, 3) := by decide +kernel
theorem dL_law_678 : decode cL_law 678 = .ok (.if_icmp .eq 602, 3) := by decide +kernel
theorem dL_law_681 : decode cL_law 681 = .ok (.iconst 0, 1) := by decide +kernel
theorem dL_law_682 : decode cL_law 682 = .ok (.ireturn, 1) := by decide +kernel
theorem dL_law_683 : decode cL_law 683 = .ok (.aload_n 1, 1) := by decide +kernel
theorem dL_law_684 : decode cL_law 684 = .ok (.aload_n 0, 1) := by decide +kernel
theorem dL_law_685 : decode cL_law 685 = .ok (.iload_n 3, 1) := by decide +kernel
theorem dL_law_686 : decode cL_law 686 = .ok (.iconst 1, 1) := by decide +kernel
theorem dL_law_687 : decode cL_law 687 = .ok (.iadd, 1) := by decide +kernel
theorem dL_law_688 : decode cL_law 688 = .ok (.iaload, 1) := by decide +kernel
theorem dL_law_689 : decode cL_law 689 = .ok (.aload_n 0, 1) := by decide +kernel
theorem dL_law_690 : decode cL_law 690 = .ok (.iload_n 3, 1) := by decide +kernel
theorem dL_law_691 : decode cL_law 691 = .ok (.iconst 2, 1) := by decide +kernel
theorem dL_law_692 : decode cL_law 692 = .ok (.iadd, 1) := by decide +kernel
theorem dL_law_693 : decode cL_law 693 = .ok (.iaload, 1) := by decide +kernel
theorem dL_law_694 : decode cL_law 694 = .ok (.invokevirtual 86, 3) := by decide +kernel
theorem dL_law_697 : decode cL_law 697 = .ok (.aload_n 2, 1) := by decide +kernel
theorem dL_law_698 : decode cL_law 698 = .ok (.aload_n 0, 1) := by decide +kernel
theorem dL_law_699 : decode cL_law 699 = .ok (.iload_n 3, 1) := by decide +kernel
theorem dL_law_700 : decode cL_law 700 = .ok (.iconst 1, 1) := by decide +kernel
theorem dL_law_701 : decode cL_law 701 = .ok (.iadd, 1) := by decide +kernel
theorem dL_law_702 : decode cL_law 702 = .ok (.iaload, 1) := by decide +kernel
theorem dL_law_703 : decode cL_law 703 = .ok (.aload_n 0, 1) := by decide +kernel
theorem dL_law_704 : decode cL_law 704 = .ok (.iload_n 3, 1) := by decide +kernel
theorem dL_law_705 : decode cL_law 705 = .ok (.iconst 2, 1) := by decide +kernel
theorem dL_law_706 : decode cL_law 706 = .ok (.iadd, 1) := by decide +kernel
theorem dL_law_707 : decode cL_law 707 = .ok (.iaload, 1) := by decide +kernel
theorem dL_law_708 : decode cL_law 708 = .ok (.invokevirtual 89, 3) := by decide +kernel
theorem dL_law_711 : decode cL_law 711 = .ok (.if_icmp .eq 569, 3) := by decide +kernel
theorem dL_law_714 : decode cL_law 714 = .ok (.iconst 0, 1) := by decide +kernel
theorem dL_law_715 : decode cL_law 715 = .ok (.ireturn, 1) := by decide +kernel
theorem dL_law_716 : decode cL_law 716 = .ok (.aload_n 1, 1) := by decide +kernel
theorem dL_law_717 : decode cL_law 717 = .ok (.aload_n 0, 1) := by decide +kernel
theorem dL_law_718 : decode cL_law 718 = .ok (.iload_n 3, 1) := by decide +kernel
theorem dL_law_719 : decode cL_law 719 = .ok (.iconst 1, 1) := by decide +kernel
theorem dL_law_720 : decode cL_law 720 = .ok (.iadd, 1) := by decide +kernel
theorem dL_law_721 : decode cL_law 721 = .ok (.iaload, 1) := by decide +kernel
theorem dL_law_722 : decode cL_law 722 = .ok (.invokevirtual 90, 3) := by decide +kernel
theorem dL_law_725 : decode cL_law 725 = .ok (.aload_n 2, 1) := by decide +kernel
theorem dL_law_726 : decode cL_law 726 = .ok (.aload_n 0, 1) := by decide +kernel
theorem dL_law_727 : decode cL_law 727 = .ok (.iload_n 3, 1) := by decide +kernel
theorem dL_law_728 : decode cL_law 728 = .ok (.iconst 1, 1) := by decide +kernel
theorem dL_law_729 : decode cL_law 729 = .ok (.iadd, 1) := by decide +kernel
theorem dL_law_730 : decode cL_law 730 = .ok (.iaload, 1) := by decide +kernel
theorem dL_law_731 : decode cL_law 731 = .ok (.invokevirtual 93, 3) := by decide +kernel
theorem dL_law_734 : decode cL_law 734 = .ok (.if_icmp .eq 546, 3) := by decide +kernel
theorem dL_law_737 : decode cL_law 737 = .ok (.iconst 0, 1) := by decide +kernel
theorem dL_law_738 : decode cL_law 738 = .ok (.ireturn, 1) := by decide +kernel
theorem dL_law_739 : decode cL_law 739 = .ok (.aload_n 1, 1) := by decide +kernel
theorem dL_law_740 : decode cL_law 740 = .ok (.invokevirtual 94, 3) := by decide +kernel
theorem dL_law_743 : decode cL_law 743 = .ok (.aload_n 2, 1) := by decide +kernel
theorem dL_law_744 : decode cL_law 744 = .ok (.invokevirtual 97, 3) := by decide +kernel
theorem dL_law_747 : decode cL_law 747 = .ok (.if_icmp .eq 533, 3) := by decide +kernel
theorem dL_law_750 : decode cL_law 750 = .ok (.iconst 0, 1) := by decide +kernel
theorem dL_law_751 : decode cL_law 751 = .ok (.ireturn, 1) := by decide +kernel
theorem dL_law_752 : decode cL_law 752 = .ok (.aload_n 1, 1) := by decide +kernel
theorem dL_law_753 : decode cL_law 753 = .ok (.aload_n 0, 1) := by decide +kernel
theorem dL_law_754 : decode cL_law 754 = .ok (.iload_n 3, 1) := by decide +kernel
theorem dL_law_755 : decode cL_law 755 = .ok (.iconst 1, 1) := by decide +kernel
theorem dL_law_756 : decode cL_law 756 = .ok (.iadd, 1) := by decide +kernel
theorem dL_law_757 : decode cL_law 757 = .ok (.iaload, 1) := by decide +kernel
theorem dL_law_758 : decode cL_law 758 = .ok (.aload_n 0, 1) := by decide +kernel
theorem dL_law_759 : decode cL_law 759 = .ok (.iload_n 3, 1) := by decide +kernel
theorem dL_law_760 : decode cL_law 760 = .ok (.iconst 2, 1) := by decide +kernel
theorem dL_law_761 : decode cL_law 761 = .ok (.iadd, 1) := by decide +kernel
theorem dL_law_762 : decode cL_law 762 = .ok (.iaload, 1) := by decide +kernel
theorem dL_law_763 : decode cL_law 763 = .ok (.aload_n 0, 1) := by decide +kernel
theorem dL_law_764 : decode cL_law 764 = .ok (.iload_n 3, 1) := by decide +kernel
theorem dL_law_765 : decode cL_law 765 = .ok (.iconst 3, 1) := by decide +kernel
theorem dL_law_766 : decode cL_law 766 = .ok (.iadd, 1) := by decide +kernel
theorem dL_law_767 : decode cL_law 767 = .ok (.iaload, 1) := by decide +kernel
theorem dL_law_768 : decode cL_law 768 = .ok (.invokevirtual 98, 3) := by decide +kernel
theorem dL_law_771 : decode cL_law 771 = .ok (.aload_n 2, 1) := by decide +kernel
theorem dL_law_772 : decode cL_law 772 = .ok (.aload_n 0, 1) := by decide +kernel
theorem dL_law_773 : decode cL_law 773 = .ok (.iload_n 3, 1) := by decide +kernel
theorem dL_law_774 : decode cL_law 774 = .ok (.iconst 1, 1) := by decide +kernel
theorem dL_law_775 : decode cL_law 775 = .ok (.iadd, 1) := by decide +kernel
theorem dL_law_776 : decode cL_law 776 = .ok (.iaload, 1) := by decide +kernel
theorem dL_law_777 : decode cL_law 777 = .ok (.aload_n 0, 1) := by decide +kernel
theorem dL_law_778 : decode cL_law 778 = .ok (.iload_n 3, 1) := by decide +kernel
theorem dL_law_779 : decode cL_law 779 = .ok (.iconst 2, 1) := by decide +kernel
theorem dL_law_780 : decode cL_law 780 = .ok (.iadd, 1) := by decide +kernel
theorem dL_law_781 : decode cL_law 781 = .ok (.iaload, 1) := by decide +kernel
theorem dL_law_782 : decode cL_law 782 = .ok (.aload_n 0, 1) := by decide +kernel
theorem dL_law_783 : decode cL_law 783 = .ok (.iload_n 3, 1) := by decide +kernel
theorem dL_law_784 : decode cL_law 784 = .ok (.iconst 3, 1) := by decide +kernel
theorem dL_law_785 : decode cL_law 785 = .ok (.iadd, 1) := by decide +kernel
theorem dL_law_786 : decode cL_law 786 = .ok (.iaload, 1) := by decide +kernel
theorem dL_law_787 : decode cL_law 787 = .ok (.invokevirtual 101, 3) := by decide +kernel
theorem dL_law_790 : decode cL_law 790 = .ok (.if_icmp .eq 490, 3) := by decide +kernel
theorem dL_law_793 : decode cL_law 793 = .ok (.iconst 0, 1) := by decide +kernel
theorem dL_law_794 : decode cL_law 794 = .ok (.ireturn, 1) := by decide +kernel
theorem dL_law_795 : decode cL_law 795 = .ok (.aload_n 1, 1) := by decide +kernel
theorem dL_law_796 : decode cL_law 796 = .ok (.aload_n 0, 1) := by decide +kernel
theorem dL_law_797 : decode cL_law 797 = .ok (.iload_n 3, 1) := by decide +kernel
theorem dL_law_798 : decode cL_law 798 = .ok (.iconst 1, 1) := by decide +kernel
theorem dL_law_799 : decode cL_law 799 = .ok (.iadd, 1) := by decide +kernel
theorem dL_law_800 : decode cL_law 800 = .ok (.iaload, 1) := by decide +kernel
theorem dL_law_801 : decode cL_law 801 = .ok (.aload_n 0, 1) := by decide +kernel
theorem dL_law_802 : decode cL_law 802 = .ok (.iload_n 3, 1) := by decide +kernel
theorem dL_law_803 : decode cL_law 803 = .ok (.iconst 2, 1) := by decide +kernel
theorem dL_law_804 : decode cL_law 804 = .ok (.iadd, 1) := by decide +kernel
theorem dL_law_805 : decode cL_law 805 = .ok (.iaload, 1) := by decide +kernel
theorem dL_law_806 : decode cL_law 806 = .ok (.invokevirtual 102, 3) := by decide +kernel
theorem dL_law_809 : decode cL_law 809 = .ok (.aload_n 2, 1) := by decide +kernel
theorem dL_law_810 : decode cL_law 810 = .ok (.aload_n 0, 1) := by decide +kernel
theorem dL_law_811 : decode cL_law 811 = .ok (.iload_n 3, 1) := by decide +kernel
theorem dL_law_812 : decode cL_law 812 = .ok (.iconst 1, 1) := by decide +kernel
theorem dL_law_813 : decode cL_law 813 = .ok (.iadd, 1) := by decide +kernel
theorem dL_law_814 : decode cL_law 814 = .ok (.iaload, 1) := by decide +kernel
theorem dL_law_815 : decode cL_law 815 = .ok (.aload_n 0, 1) := by decide +kernel
theorem dL_law_816 : decode cL_law 816 = .ok (.iload_n 3, 1) := by decide +kernel
theorem dL_law_817 : decode cL_law 817 = .ok (.iconst 2, 1) := by decide +kernel
theorem dL_law_818 : decode cL_law 818 = .ok (.iadd, 1) := by decide +kernel
theorem dL_law_819 : decode cL_law 819 = .ok (.iaload, 1) := by decide +kernel
theorem dL_law_820 : decode cL_law 820 = .ok (.invokevirtual 105, 3) := by decide +kernel
theorem dL_law_823 : decode cL_law 823 = .ok (.if_icmp .eq 457, 3) := by decide +kernel
theorem dL_law_826 : decode cL_law 826 = .ok (.iconst 0, 1) := by decide +kernel
theorem dL_law_827 : decode cL_law 827 = .ok (.ireturn, 1) := by decide +kernel
theorem dL_law_828 : decode cL_law 828 = .ok (.aload_n 1, 1) := by decide +kernel
theorem dL_law_829 : decode cL_law 829 = .ok (.aload_n 0, 1) := by decide +kernel
theorem dL_law_830 : decode cL_law 830 = .ok (.iload_n 3, 1) := by decide +kernel
theorem dL_law_831 : decode cL_law 831 = .ok (.iconst 1, 1) := by decide +kernel
theorem dL_law_832 : decode cL_law 832 = .ok (.iadd, 1) := by decide +kernel
theorem dL_law_833 : decode cL_law 833 = .ok (.iaload, 1) := by decide +kernel
theorem dL_law_834 : decode cL_law 834 = .ok (.aload_n 0, 1) := by decide +kernel
theorem dL_law_835 : decode cL_law 835 = .ok (.iload_n 3, 1) := by decide +kernel
theorem dL_law_836 : decode cL_law 836 = .ok (.iconst 2, 1) := by decide +kernel
theorem dL_law_837 : decode cL_law 837 = .ok (.iadd, 1) := by decide +kernel
theorem dL_law_838 : decode cL_law 838 = .ok (.iaload, 1) := by decide +kernel
theorem dL_law_839 : decode cL_law 839 = .ok (.invokevirtual 106, 3) := by decide +kernel
theorem dL_law_842 : decode cL_law 842 = .ok (.aload_n 2, 1) := by decide +kernel
theorem dL_law_843 : decode cL_law 843 = .ok (.aload_n 0, 1) := by decide +kernel
theorem dL_law_844 : decode cL_law 844 = .ok (.iload_n 3, 1) := by decide +kernel
theorem dL_law_845 : decode cL_law 845 = .ok (.iconst 1, 1) := by decide +kernel
theorem dL_law_846 : decode cL_law 846 = .ok (.iadd, 1) := by decide +kernel
theorem dL_law_847 : decode cL_law 847 = .ok (.iaload, 1) := by decide +kernel
theorem dL_law_848 : decode cL_law 848 = .ok (.aload_n 0, 1) := by decide +kernel
theorem dL_law_849 : decode cL_law 849 = .ok (.iload_n 3, 1) := by decide +kernel
theorem dL_law_850 : decode cL_law 850 = .ok (.iconst 2, 1) := by decide +kernel
theorem dL_law_851 : decode cL_law 851 = .ok (.iadd, 1) := by decide +kernel
theorem dL_law_852 : decode cL_law 852 = .ok (.iaload, 1) := by decide +kernel
theorem dL_law_853 : decode cL_law 853 = .ok (.invokevirtual 109, 3) := by decide +kernel
theorem dL_law_856 : decode cL_law 856 = .ok (.if_icmp .eq 424, 3) := by decide +kernel
theorem dL_law_859 : decode cL_law 859 = .ok (.iconst 0, 1) := by decide +kernel
theorem dL_law_860 : decode cL_law 860 = .ok (.ireturn, 1) := by decide +kernel
theorem dL_law_861 : decode cL_law 861 = .ok (.aload_n 1, 1) := by decide +kernel
theorem dL_law_862 : decode cL_law 862 = .ok (.aload_n 0, 1) := by decide +kernel
theorem dL_law_863 : decode cL_law 863 = .ok (.iload_n 3, 1) := by decide +kernel
theorem dL_law_864 : decode cL_law 864 = .ok (.iconst 1, 1) := by decide +kernel
theorem dL_law_865 : decode cL_law 865 = .ok (.iadd, 1) := by decide +kernel
theorem dL_law_866 : decode cL_law 866 = .ok (.iaload, 1) := by decide +kernel
theorem dL_law_867 : decode cL_law 867 = .ok (.aload_n 0, 1) := by decide +kernel
theorem dL_law_868 : decode cL_law 868 = .ok (.iload_n 3, 1) := by decide +kernel
theorem dL_law_869 : decode cL_law 869 = .ok (.iconst 2, 1) := by decide +kernel
theorem dL_law_870 : decode cL_law 870 = .ok (.iadd, 1) := by decide +kernel
theorem dL_law_871 : decode cL_law 871 = .ok (.iaload, 1) := by decide +kernel
theorem dL_law_872 : decode cL_law 872 = .ok (.invokevirtual 110, 3) := by decide +kernel
theorem dL_law_875 : decode cL_law 875 = .ok (.aload_n 2, 1) := by decide +kernel
theorem dL_law_876 : decode cL_law 876 = .ok (.aload_n 0, 1) := by decide +kernel
theorem dL_law_877 : decode cL_law 877 = .ok (.iload_n 3, 1) := by decide +kernel
theorem dL_law_878 : decode cL_law 878 = .ok (.iconst 1, 1) := by decide +kernel
theorem dL_law_879 : decode cL_law 879 = .ok (.iadd, 1) := by decide +kernel
theorem dL_law_880 : decode cL_law 880 = .ok (.iaload, 1) := by decide +kernel
theorem dL_law_881 : decode cL_law 881 = .ok (.aload_n 0, 1) := by decide +kernel
theorem dL_law_882 : decode cL_law 882 = .ok (.iload_n 3, 1) := by decide +kernel
theorem dL_law_883 : decode cL_law 883 = .ok (.iconst 2, 1) := by decide +kernel
theorem dL_law_884 : decode cL_law 884 = .ok (.iadd, 1) := by decide +kernel
theorem dL_law_885 : decode cL_law 885 = .ok (.iaload, 1) := by decide +kernel
theorem dL_law_886 : decode cL_law 886 = .ok (.invokevirtual 113, 3) := by decide +kernel
theorem dL_law_889 : decode cL_law 889 = .ok (.if_icmp .eq 391, 3) := by decide +kernel
theorem dL_law_892 : decode cL_law 892 = .ok (.iconst 0, 1) := by decide +kernel
theorem dL_law_893 : decode cL_law 893 = .ok (.ireturn, 1) := by decide +kernel
theorem dL_law_894 : decode cL_law 894 = .ok (.aload_n 1, 1) := by decide +kernel
theorem dL_law_895 : decode cL_law 895 = .ok (.aload_n 0, 1) := by decide +kernel
theorem dL_law_896 : decode cL_law 896 = .ok (.iload_n 3, 1) := by decide +kernel
theorem dL_law_897 : decode cL_law 897 = .ok (.iconst 1, 1) := by decide +kernel
theorem dL_law_898 : decode cL_law 898 = .ok (.iadd, 1) := by decide +kernel
theorem dL_law_899 : decode cL_law 899 = .ok (.iaload, 1) := by decide +kernel
theorem dL_law_900 : decode cL_law 900 = .ok (.aload_n 0, 1) := by decide +kernel
theorem dL_law_901 : decode cL_law 901 = .ok (.iload_n 3, 1) := by decide +kernel
theorem dL_law_902 : decode cL_law 902 = .ok (.iconst 2, 1) := by decide +kernel
theorem dL_law_903 : decode cL_law 903 = .ok (.iadd, 1) := by decide +kernel
theorem dL_law_904 : decode cL_law 904 = .ok (.iaload, 1) := by decide +kernel
theorem dL_law_905 : decode cL_law 905 = .ok (.invokevirtual 114, 3) := by decide +kernel
theorem dL_law_908 : decode cL_law 908 = .ok (.aload_n 2, 1) := by decide +kernel
theorem dL_law_909 : decode cL_law 909 = .ok (.aload_n 0, 1) := by decide +kernel
theorem dL_law_910 : decode cL_law 910 = .ok (.iload_n 3, 1) := by decide +kernel
theorem dL_law_911 : decode cL_law 911 = .ok (.iconst 1, 1) := by decide +kernel
theorem dL_law_912 : decode cL_law 912 = .ok (.iadd, 1) := by decide +kernel
theorem dL_law_913 : decode cL_law 913 = .ok (.iaload, 1) := by decide +kernel
theorem dL_law_914 : decode cL_law 914 = .ok (.aload_n 0, 1) := by decide +kernel
theorem dL_law_915 : decode cL_law 915 = .ok (.iload_n 3, 1) := by decide +kernel
theorem dL_law_916 : decode cL_law 916 = .ok (.iconst 2, 1) := by decide +kernel
theorem dL_law_917 : decode cL_law 917 = .ok (.iadd, 1) := by decide +kernel
theorem dL_law_918 : decode cL_law 918 = .ok (.iaload, 1) := by decide +kernel
theorem dL_law_919 : decode cL_law 919 = .ok (.invokevirtual 117, 3) := by decide +kernel
theorem dL_law_922 : decode cL_law 922 = .ok (.if_icmp .eq 358, 3) := by decide +kernel
theorem dL_law_925 : decode cL_law 925 = .ok (.iconst 0, 1) := by decide +kernel
theorem dL_law_926 : decode cL_law 926 = .ok (.ireturn, 1) := by decide +kernel
theorem dL_law_927 : decode cL_law 927 = .ok (.aload_n 1, 1) := by decide +kernel
theorem dL_law_928 : decode cL_law 928 = .ok (.aload_n 0, 1) := by decide +kernel
theorem dL_law_929 : decode cL_law 929 = .ok (.iload_n 3, 1) := by decide +kernel
theorem dL_law_930 : decode cL_law 930 = .ok (.iconst 1, 1) := by decide +kernel
theorem dL_law_931 : decode cL_law 931 = .ok (.iadd, 1) := by decide +kernel
theorem dL_law_932 : decode cL_law 932 = .ok (.iaload, 1) := by decide +kernel
theorem dL_law_933 : decode cL_law 933 = .ok (.aload_n 0, 1) := by decide +kernel
theorem dL_law_934 : decode cL_law 934 = .ok (.iload_n 3, 1) := by decide +kernel
theorem dL_law_935 : decode cL_law 935 = .ok (.iconst 2, 1) := by decide +kernel
theorem dL_law_936 : decode cL_law 936 = .ok (.iadd, 1) := by decide +kernel
theorem dL_law_937 : decode cL_law 937 = .ok (.iaload, 1) := by decide +kernel
theorem dL_law_938 : decode cL_law 938 = .ok (.aload_n 0, 1) := by decide +kernel
theorem dL_law_939 : decode cL_law 939 = .ok (.iload_n 3, 1) := by decide +kernel
theorem dL_law_940 : decode cL_law 940 = .ok (.iconst 3, 1) := by decide +kernel
theorem dL_law_941 : decode cL_law 941 = .ok (.iadd, 1) := by decide +kernel
theorem dL_law_942 : decode cL_law 942 = .ok (.iaload, 1) := by decide +kernel
theorem dL_law_943 : decode cL_law 943 = .ok (.aload_n 0, 1) := by decide +kernel
theorem dL_law_944 : decode cL_law 944 = .ok (.iload_n 3, 1) := by decide +kernel
theorem dL_law_945 : decode cL_law 945 = .ok (.iconst 4, 1) := by decide +kernel
theorem dL_law_946 : decode cL_law 946 = .ok (.iadd, 1) := by decide +kernel
theorem dL_law_947 : decode cL_law 947 = .ok (.iaload, 1) := by decide +kernel
theorem dL_law_948 : decode cL_law 948 = .ok (.aload_n 0, 1) := by decide +kernel
theorem dL_law_949 : decode cL_law 949 = .ok (.iload_n 3, 1) := by decide +kernel
theorem dL_law_950 : decode cL_law 950 = .ok (.iconst 5, 1) := by decide +kernel
theorem dL_law_951 : decode cL_law 951 = .ok (.iadd, 1) := by decide +kernel
theorem dL_law_952 : decode cL_law 952 = .ok (.iaload, 1) := by decide +kernel
theorem dL_law_953 : decode cL_law 953 = .ok (.invokevirtual 118, 3) := by decide +kernel
theorem dL_law_956 : decode cL_law 956 = .ok (.aload_n 2, 1) := by decide +kernel
theorem dL_law_957 : decode cL_law 957 = .ok (.aload_n 0, 1) := by decide +kernel
theorem dL_law_958 : decode cL_law 958 = .ok (.iload_n 3, 1) := by decide +kernel
theorem dL_law_959 : decode cL_law 959 = .ok (.iconst 1, 1) := by decide +kernel
theorem dL_law_960 : decode cL_law 960 = .ok (.iadd, 1) := by decide +kernel
theorem dL_law_961 : decode cL_law 961 = .ok (.iaload, 1) := by decide +kernel
theorem dL_law_962 : decode cL_law 962 = .ok (.aload_n 0, 1) := by decide +kernel
theorem dL_law_963 : decode cL_law 963 = .ok (.iload_n 3, 1) := by decide +kernel
theorem dL_law_964 : decode cL_law 964 = .ok (.iconst 2, 1) := by decide +kernel
theorem dL_law_965 : decode cL_law 965 = .ok (.iadd, 1) := by decide +kernel
theorem dL_law_966 : decode cL_law 966 = .ok (.iaload, 1) := by decide +kernel
theorem dL_law_967 : decode cL_law 967 = .ok (.aload_n 0, 1) := by decide +kernel
theorem dL_law_968 : decode cL_law 968 = .ok (.iload_n 3, 1) := by decide +kernel
theorem dL_law_969 : decode cL_law 969 = .ok (.iconst 3, 1) := by decide +kernel
theorem dL_law_970 : decode cL_law 970 = .ok (.iadd, 1) := by decide +kernel
theorem dL_law_971 : decode cL_law 971 = .ok (.iaload, 1) := by decide +kernel
theorem dL_law_972 : decode cL_law 972 = .ok (.aload_n 0, 1) := by decide +kernel
theorem dL_law_973 : decode cL_law 973 = .ok (.iload_n 3, 1) := by decide +kernel
theorem dL_law_974 : decode cL_law 974 = .ok (.iconst 4, 1) := by decide +kernel
theorem dL_law_975 : decode cL_law 975 = .ok (.iadd, 1) := by decide +kernel
theorem dL_law_976 : decode cL_law 976 = .ok (.iaload, 1) := by decide +kernel
theorem dL_law_977 : decode cL_law 977 = .ok (.aload_n 0, 1) := by decide +kernel
theorem dL_law_978 : decode cL_law 978 = .ok (.iload_n 3, 1) := by decide +kernel
theorem dL_law_979 : decode cL_law 979 = .ok (.iconst 5, 1) := by decide +kernel
theorem dL_law_980 : decode cL_law 980 = .ok (.iadd, 1) := by decide +kernel
theorem dL_law_981 : decode cL_law 981 = .ok (.iaload, 1) := by decide +kernel
theorem dL_law_982 : decode cL_law 982 = .ok (.invokevirtual 121, 3) := by decide +kernel
theorem dL_law_985 : decode cL_law 985 = .ok (.if_icmp .eq 295, 3) := by decide +kernel
theorem dL_law_988 : decode cL_law 988 = .ok (.iconst 0, 1) := by decide +kernel
theorem dL_law_989 : decode cL_law 989 = .ok (.ireturn, 1) := by decide +kernel
theorem dL_law_990 : decode cL_law 990 = .ok (.aload_n 1, 1) := by decide +kernel
theorem dL_law_991 : decode cL_law 991 = .ok (.aload_n 0, 1) := by decide +kernel
theorem dL_law_992 : decode cL_law 992 = .ok (.iload_n 3, 1) := by decide +kernel
theorem dL_law_993 : decode cL_law 993 = .ok (.iconst 1, 1) := by decide +kernel
theorem dL_law_994 : decode cL_law 994 = .ok (.iadd, 1) := by decide +kernel
theorem dL_law_995 : decode cL_law 995 = .ok (.iaload, 1) := by decide +kernel
theorem dL_law_996 : decode cL_law 996 = .ok (.aload_n 0, 1) := by decide +kernel
theorem dL_law_997 : decode cL_law 997 = .ok (.iload_n 3, 1) := by decide +kernel
theorem dL_law_998 : decode cL_law 998 = .ok (.iconst 2, 1) := by decide +kernel
theorem dL_law_999 : decode cL_law 999 = .ok (.iadd, 1) := by decide +kernel
theorem dL_law_1000 : decode cL_law 1000 = .ok (.iaload, 1) := by decide +kernel
theorem dL_law_1001 : decode cL_law 1001 = .ok (.aload_n 0, 1) := by decide +kernel
theorem dL_law_1002 : decode cL_law 1002 = .ok (.iload_n 3, 1) := by decide +kernel
theorem dL_law_1003 : decode cL_law 1003 = .ok (.iconst 3, 1) := by decide +kernel
theorem dL_law_1004 : decode cL_law 1004 = .ok (.iadd, 1) := by decide +kernel
theorem dL_law_1005 : decode cL_law 1005 = .ok (.iaload, 1) := by decide +kernel
theorem dL_law_1006 : decode cL_law 1006 = .ok (.aload_n 0, 1) := by decide +kernel
theorem dL_law_1007 : decode cL_law 1007 = .ok (.iload_n 3, 1) := by decide +kernel
theorem dL_law_1008 : decode cL_law 1008 = .ok (.iconst 4, 1) := by decide +kernel
theorem dL_law_1009 : decode cL_law 1009 = .ok (.iadd, 1) := by decide +kernel
theorem dL_law_1010 : decode cL_law 1010 = .ok (.iaload, 1) := by decide +kernel
theorem dL_law_1011 : decode cL_law 1011 = .ok (.invokevirtual 122, 3) := by decide +kernel
theorem dL_law_1014 : decode cL_law 1014 = .ok (.aload_n 2, 1) := by decide +kernel
theorem dL_law_1015 : decode cL_law 1015 = .ok (.aload_n 0, 1) := by decide +kernel
theorem dL_law_1016 : decode cL_law 1016 = .ok (.iload_n 3, 1) := by decide +kernel
theorem dL_law_1017 : decode cL_law 1017 = .ok (.iconst 1, 1) := by decide +kernel
theorem dL_law_1018 : decode cL_law 1018 = .ok (.iadd, 1) := by decide +kernel
theorem dL_law_1019 : decode cL_law 1019 = .ok (.iaload, 1) := by decide +kernel
theorem dL_law_1020 : decode cL_law 1020 = .ok (.aload_n 0, 1) := by decide +kernel
theorem dL_law_1021 : decode cL_law 1021 = .ok (.iload_n 3, 1) := by decide +kernel
theorem dL_law_1022 : decode cL_law 1022 = .ok (.iconst 2, 1) := by decide +kernel
theorem dL_law_1023 : decode cL_law 1023 = .ok (.iadd, 1) := by decide +kernel
theorem dL_law_1024 : decode cL_law 1024 = .ok (.iaload, 1) := by decide +kernel
theorem dL_law_1025 : decode cL_law 1025 = .ok (.aload_n 0, 1) := by decide +kernel
theorem dL_law_1026 : decode cL_law 1026 = .ok (.iload_n 3, 1) := by decide +kernel
theorem dL_law_1027 : decode cL_law 1027 = .ok (.iconst 3, 1) := by decide +kernel
theorem dL_law_1028 : decode cL_law 1028 = .ok (.iadd, 1) := by decide +kernel
theorem dL_law_1029 : decode cL_law 1029 = .ok (.iaload, 1) := by decide +kernel
theorem dL_law_1030 : decode cL_law 1030 = .ok (.aload_n 0, 1) := by decide +kernel
theorem dL_law_1031 : decode cL_law 1031 = .ok (.iload_n 3, 1) := by decide +kernel
theorem dL_law_1032 : decode cL_law 1032 = .ok (.iconst 4, 1) := by decide +kernel
theorem dL_law_1033 : decode cL_law 1033 = .ok (.iadd, 1) := by decide +kernel
theorem dL_law_1034 : decode cL_law 1034 = .ok (.iaload, 1) := by decide +kernel
theorem dL_law_1035 : decode cL_law 1035 = .ok (.invokevirtual 126, 3) := by decide +kernel
theorem dL_law_1038 : decode cL_law 1038 = .ok (.if_icmp .eq 242, 3) := by decide +kernel
theorem dL_law_1041 : decode cL_law 1041 = .ok (.iconst 0, 1) := by decide +kernel
theorem dL_law_1042 : decode cL_law 1042 = .ok (.ireturn, 1) := by decide +kernel
theorem dL_law_1043 : decode cL_law 1043 = .ok (.aload_n 1, 1) := by decide +kernel
theorem dL_law_1044 : decode cL_law 1044 = .ok (.aload_n 0, 1) := by decide +kernel
theorem dL_law_1045 : decode cL_law 1045 = .ok (.iload_n 3, 1) := by decide +kernel
theorem dL_law_1046 : decode cL_law 1046 = .ok (.iconst 1, 1) := by decide +kernel
theorem dL_law_1047 : decode cL_law 1047 = .ok (.iadd, 1) := by decide +kernel
theorem dL_law_1048 : decode cL_law 1048 = .ok (.iaload, 1) := by decide +kernel
theorem dL_law_1049 : decode cL_law 1049 = .ok (.aload_n 0, 1) := by decide +kernel
theorem dL_law_1050 : decode cL_law 1050 = .ok (.iload_n 3, 1) := by decide +kernel
theorem dL_law_1051 : decode cL_law 1051 = .ok (.iconst 2, 1) := by decide +kernel
theorem dL_law_1052 : decode cL_law 1052 = .ok (.iadd, 1) := by decide +kernel
theorem dL_law_1053 : decode cL_law 1053 = .ok (.iaload, 1) := by decide +kernel
theorem dL_law_1054 : decode cL_law 1054 = .ok (.aload_n 0, 1) := by decide +kernel
theorem dL_law_1055 : decode cL_law 1055 = .ok (.iload_n 3, 1) := by decide +kernel
theorem dL_law_1056 : decode cL_law 1056 = .ok (.iconst 3, 1) := by decide +kernel
theorem dL_law_1057 : decode cL_law 1057 = .ok (.iadd, 1) := by decide +kernel
theorem dL_law_1058 : decode cL_law 1058 = .ok (.iaload, 1) := by decide +kernel
theorem dL_law_1059 : decode cL_law 1059 = .ok (.invokevirtual 127, 3) := by decide +kernel
theorem dL_law_1062 : decode cL_law 1062 = .ok (.aload_n 2, 1) := by decide +kernel
theorem dL_law_1063 : decode cL_law 1063 = .ok (.aload_n 0, 1) := by decide +kernel
theorem dL_law_1064 : decode cL_law 1064 = .ok (.iload_n 3, 1) := by decide +kernel
theorem dL_law_1065 : decode cL_law 1065 = .ok (.iconst 1, 1) := by decide +kernel
theorem dL_law_1066 : decode cL_law 1066 = .ok (.iadd, 1) := by decide +kernel
theorem dL_law_1067 : decode cL_law 1067 = .ok (.iaload, 1) := by decide +kernel
theorem dL_law_1068 : decode cL_law 1068 = .ok (.aload_n 0, 1) := by decide +kernel
theorem dL_law_1069 : decode cL_law 1069 = .ok (.iload_n 3, 1) := by decide +kernel
theorem dL_law_1070 : decode cL_law 1070 = .ok (.iconst 2, 1) := by decide +kernel
theorem dL_law_1071 : decode cL_law 1071 = .ok (.iadd, 1) := by decide +kernel
theorem dL_law_1072 : decode cL_law 1072 = .ok (.iaload, 1) := by decide +kernel
theorem dL_law_1073 : decode cL_law 1073 = .ok (.aload_n 0, 1) := by decide +kernel
theorem dL_law_1074 : decode cL_law 1074 = .ok (.iload_n 3, 1) := by decide +kernel
theorem dL_law_1075 : decode cL_law 1075 = .ok (.iconst 3, 1) := by decide +kernel
theorem dL_law_1076 : decode cL_law 1076 = .ok (.iadd, 1) := by decide +kernel
theorem dL_law_1077 : decode cL_law 1077 = .ok (.iaload, 1) := by decide +kernel
theorem dL_law_1078 : decode cL_law 1078 = .ok (.invokevirtual 130, 3) := by decide +kernel
theorem dL_law_1081 : decode cL_law 1081 = .ok (.if_icmp .eq 199, 3) := by decide +kernel
theorem dL_law_1084 : decode cL_law 1084 = .ok (.iconst 0, 1) := by decide +kernel
theorem dL_law_1085 : decode cL_law 1085 = .ok (.ireturn, 1) := by decide +kernel
theorem dL_law_1086 : decode cL_law 1086 = .ok (.aload_n 1, 1) := by decide +kernel
theorem dL_law_1087 : decode cL_law 1087 = .ok (.aload_n 0, 1) := by decide +kernel
theorem dL_law_1088 : decode cL_law 1088 = .ok (.iload_n 3, 1) := by decide +kernel
theorem dL_law_1089 : decode cL_law 1089 = .ok (.iconst 1, 1) := by decide +kernel
theorem dL_law_1090 : decode cL_law 1090 = .ok (.iadd, 1) := by decide +kernel
theorem dL_law_1091 : decode cL_law 1091 = .ok (.iaload, 1) := by decide +kernel
theorem dL_law_1092 : decode cL_law 1092 = .ok (.invokevirtual 131, 3) := by decide +kernel
theorem dL_law_1095 : decode cL_law 1095 = .ok (.aload_n 2, 1) := by decide +kernel
theorem dL_law_1096 : decode cL_law 1096 = .ok (.aload_n 0, 1) := by decide +kernel
theorem dL_law_1097 : decode cL_law 1097 = .ok (.iload_n 3, 1) := by decide +kernel
theorem dL_law_1098 : decode cL_law 1098 = .ok (.iconst 1, 1) := by decide +kernel
theorem dL_law_1099 : decode cL_law 1099 = .ok (.iadd, 1) := by decide +kernel
theorem dL_law_1100 : decode cL_law 1100 = .ok (.iaload, 1) := by decide +kernel
theorem dL_law_1101 : decode cL_law 1101 = .ok (.invokevirtual 134, 3) := by decide +kernel
theorem dL_law_1104 : decode cL_law 1104 = .ok (.if_icmp .eq 176, 3) := by decide +kernel
theorem dL_law_1107 : decode cL_law 1107 = .ok (.iconst 0, 1) := by decide +kernel
theorem dL_law_1108 : decode cL_law 1108 = .ok (.ireturn, 1) := by decide +kernel
theorem dL_law_1109 : decode cL_law 1109 = .ok (.aload_n 1, 1) := by decide +kernel
theorem dL_law_1110 : decode cL_law 1110 = .ok (.aload_n 0, 1) := by decide +kernel
theorem dL_law_1111 : decode cL_law 1111 = .ok (.iload_n 3, 1) := by decide +kernel
theorem dL_law_1112 : decode cL_law 1112 = .ok (.iconst 1, 1) := by decide +kernel
theorem dL_law_1113 : decode cL_law 1113 = .ok (.iadd, 1) := by decide +kernel
theorem dL_law_1114 : decode cL_law 1114 = .ok (.iaload, 1) := by decide +kernel
theorem dL_law_1115 : decode cL_law 1115 = .ok (.invokevirtual 135, 3) := by decide +kernel
theorem dL_law_1118 : decode cL_law 1118 = .ok (.aload_n 2, 1) := by decide +kernel
theorem dL_law_1119 : decode cL_law 1119 = .ok (.aload_n 0, 1) := by decide +kernel
theorem dL_law_1120 : decode cL_law 1120 = .ok (.iload_n 3, 1) := by decide +kernel
theorem dL_law_1121 : decode cL_law 1121 = .ok (.iconst 1, 1) := by decide +kernel
theorem dL_law_1122 : decode cL_law 1122 = .ok (.iadd, 1) := by decide +kernel
theorem dL_law_1123 : decode cL_law 1123 = .ok (.iaload, 1) := by decide +kernel
theorem dL_law_1124 : decode cL_law 1124 = .ok (.invokevirtual 138, 3) := by decide +kernel
theorem dL_law_1127 : decode cL_law 1127 = .ok (.if_icmp .eq 153, 3) := by decide +kernel
theorem dL_law_1130 : decode cL_law 1130 = .ok (.iconst 0, 1) := by decide +kernel
theorem dL_law_1131 : decode cL_law 1131 = .ok (.ireturn, 1) := by decide +kernel
theorem dL_law_1132 : decode cL_law 1132 = .ok (.aload_n 1, 1) := by decide +kernel
theorem dL_law_1133 : decode cL_law 1133 = .ok (.aload_n 0, 1) := by decide +kernel
theorem dL_law_1134 : decode cL_law 1134 = .ok (.iload_n 3, 1) := by decide +kernel
theorem dL_law_1135 : decode cL_law 1135 = .ok (.iconst 1, 1) := by decide +kernel
theorem dL_law_1136 : decode cL_law 1136 = .ok (.iadd, 1) := by decide +kernel
theorem dL_law_1137 : decode cL_law 1137 = .ok (.iaload, 1) := by decide +kernel
theorem dL_law_1138 : decode cL_law 1138 = .ok (.invokevirtual 139, 3) := by decide +kernel
theorem dL_law_1141 : decode cL_law 1141 = .ok (.aload_n 2, 1) := by decide +kernel
theorem dL_law_1142 : decode cL_law 1142 = .ok (.aload_n 0, 1) := by decide +kernel
theorem dL_law_1143 : decode cL_law 1143 = .ok (.iload_n 3, 1) := by decide +kernel
theorem dL_law_1144 : decode cL_law 1144 = .ok (.iconst 1, 1) := by decide +kernel
theorem dL_law_1145 : decode cL_law 1145 = .ok (.iadd, 1) := by decide +kernel
theorem dL_law_1146 : decode cL_law 1146 = .ok (.iaload, 1) := by decide +kernel
theorem dL_law_1147 : decode cL_law 1147 = .ok (.invokevirtual 142, 3) := by decide +kernel
theorem dL_law_1150 : decode cL_law 1150 = .ok (.if_icmp .eq 130, 3) := by decide +kernel
theorem dL_law_1153 : decode cL_law 1153 = .ok (.iconst 0, 1) := by decide +kernel
theorem dL_law_1154 : decode cL_law 1154 = .ok (.ireturn, 1) := by decide +kernel
theorem dL_law_1155 : decode cL_law 1155 = .ok (.aload_n 1, 1) := by decide +kernel
theorem dL_law_1156 : decode cL_law 1156 = .ok (.aload_n 0, 1) := by decide +kernel
theorem dL_law_1157 : decode cL_law 1157 = .ok (.iload_n 3, 1) := by decide +kernel
theorem dL_law_1158 : decode cL_law 1158 = .ok (.iconst 1, 1) := by decide +kernel
theorem dL_law_1159 : decode cL_law 1159 = .ok (.iadd, 1) := by decide +kernel
theorem dL_law_1160 : decode cL_law 1160 = .ok (.iaload, 1) := by decide +kernel
theorem dL_law_1161 : decode cL_law 1161 = .ok (.aload_n 0, 1) := by decide +kernel
theorem dL_law_1162 : decode cL_law 1162 = .ok (.iload_n 3, 1) := by decide +kernel
theorem dL_law_1163 : decode cL_law 1163 = .ok (.iconst 2, 1) := by decide +kernel
theorem dL_law_1164 : decode cL_law 1164 = .ok (.iadd, 1) := by decide +kernel
theorem dL_law_1165 : decode cL_law 1165 = .ok (.iaload, 1) := by decide +kernel
theorem dL_law_1166 : decode cL_law 1166 = .ok (.invokevirtual 143, 3) := by decide +kernel
theorem dL_law_1169 : decode cL_law 1169 = .ok (.aload_n 2, 1) := by decide +kernel
theorem dL_law_1170 : decode cL_law 1170 = .ok (.aload_n 0, 1) := by decide +kernel
theorem dL_law_1171 : decode cL_law 1171 = .ok (.iload_n 3, 1) := by decide +kernel
theorem dL_law_1172 : decode cL_law 1172 = .ok (.iconst 1, 1) := by decide +kernel
theorem dL_law_1173 : decode cL_law 1173 = .ok (.iadd, 1) := by decide +kernel
theorem dL_law_1174 : decode cL_law 1174 = .ok (.iaload, 1) := by decide +kernel
theorem dL_law_1175 : decode cL_law 1175 = .ok (.aload_n 0, 1) := by decide +kernel
theorem dL_law_1176 : decode cL_law 1176 = .ok (.iload_n 3, 1) := by decide +kernel
theorem dL_law_1177 : decode cL_law 1177 = .ok (.iconst 2, 1) := by decide +kernel
theorem dL_law_1178 : decode cL_law 1178 = .ok (.iadd, 1) := by decide +kernel
theorem dL_law_1179 : decode cL_law 1179 = .ok (.iaload, 1) := by decide +kernel
theorem dL_law_1180 : decode cL_law 1180 = .ok (.invokevirtual 146, 3) := by decide +kernel
theorem dL_law_1183 : decode cL_law 1183 = .ok (.if_icmp .eq 97, 3) := by decide +kernel
theorem dL_law_1186 : decode cL_law 1186 = .ok (.iconst 0, 1) := by decide +kernel
theorem dL_law_1187 : decode cL_law 1187 = .ok (.ireturn, 1) := by decide +kernel
theorem dL_law_1188 : decode cL_law 1188 = .ok (.aload_n 1, 1) := by decide +kernel
theorem dL_law_1189 : decode cL_law 1189 = .ok (.aload_n 0, 1) := by decide +kernel
theorem dL_law_1190 : decode cL_law 1190 = .ok (.iload_n 3, 1) := by decide +kernel
theorem dL_law_1191 : decode cL_law 1191 = .ok (.iconst 1, 1) := by decide +kernel
theorem dL_law_1192 : decode cL_law 1192 = .ok (.iadd, 1) := by decide +kernel
theorem dL_law_1193 : decode cL_law 1193 = .ok (.iaload, 1) := by decide +kernel
theorem dL_law_1194 : decode cL_law 1194 = .ok (.aload_n 0, 1) := by decide +kernel
theorem dL_law_1195 : decode cL_law 1195 = .ok (.iload_n 3, 1) := by decide +kernel
theorem dL_law_1196 : decode cL_law 1196 = .ok (.iconst 2, 1) := by decide +kernel
theorem dL_law_1197 : decode cL_law 1197 = .ok (.iadd, 1) := by decide +kernel
theorem dL_law_1198 : decode cL_law 1198 = .ok (.iaload, 1) := by decide +kernel
theorem dL_law_1199 : decode cL_law 1199 = .ok (.invokevirtual 147, 3) := by decide +kernel
theorem dL_law_1202 : decode cL_law 1202 = .ok (.aload_n 2, 1) := by decide +kernel
theorem dL_law_1203 : decode cL_law 1203 = .ok (.aload_n 0, 1) := by decide +kernel
theorem dL_law_1204 : decode cL_law 1204 = .ok (.iload_n 3, 1) := by decide +kernel
theorem dL_law_1205 : decode cL_law 1205 = .ok (.iconst 1, 1) := by decide +kernel
theorem dL_law_1206 : decode cL_law 1206 = .ok (.iadd, 1) := by decide +kernel
theorem dL_law_1207 : decode cL_law 1207 = .ok (.iaload, 1) := by decide +kernel
theorem dL_law_1208 : decode cL_law 1208 = .ok (.aload_n 0, 1) := by decide +kernel
theorem dL_law_1209 : decode cL_law 1209 = .ok (.iload_n 3, 1) := by decide +kernel
theorem dL_law_1210 : decode cL_law 1210 = .ok (.iconst 2, 1) := by decide +kernel
theorem dL_law_1211 : decode cL_law 1211 = .ok (.iadd, 1) := by decide +kernel
theorem dL_law_1212 : decode cL_law 1212 = .ok (.iaload, 1) := by decide +kernel
theorem dL_law_1213 : decode cL_law 1213 = .ok (.invokevirtual 150, 3) := by decide +kernel
theorem dL_law_1216 : decode cL_law 1216 = .ok (.if_icmp .eq 64, 3) := by decide +kernel
theorem dL_law_1219 : decode cL_law 1219 = .ok (.iconst 0, 1) := by decide +kernel
theorem dL_law_1220 : decode cL_law 1220 = .ok (.ireturn, 1) := by decide +kernel
theorem dL_law_1221 : decode cL_law 1221 = .ok (.aload_n 1, 1) := by decide +kernel
theorem dL_law_1222 : decode cL_law 1222 = .ok (.aload_n 0, 1) := by decide +kernel
theorem dL_law_1223 : decode cL_law 1223 = .ok (.iload_n 3, 1) := by decide +kernel
theorem dL_law_1224 : decode cL_law 1224 = .ok (.iconst 1, 1) := by decide +kernel
theorem dL_law_1225 : decode cL_law 1225 = .ok (.iadd, 1) := by decide +kernel
theorem dL_law_1226 : decode cL_law 1226 = .ok (.iaload, 1) := by decide +kernel
theorem dL_law_1227 : decode cL_law 1227 = .ok (.invokevirtual 151, 3) := by decide +kernel
theorem dL_law_1230 : decode cL_law 1230 = .ok (.aload_n 2, 1) := by decide +kernel
theorem dL_law_1231 : decode cL_law 1231 = .ok (.aload_n 0, 1) := by decide +kernel
theorem dL_law_1232 : decode cL_law 1232 = .ok (.iload_n 3, 1) := by decide +kernel
theorem dL_law_1233 : decode cL_law 1233 = .ok (.iconst 1, 1) := by decide +kernel
theorem dL_law_1234 : decode cL_law 1234 = .ok (.iadd, 1) := by decide +kernel
theorem dL_law_1235 : decode cL_law 1235 = .ok (.iaload, 1) := by decide +kernel
theorem dL_law_1236 : decode cL_law 1236 = .ok (.invokevirtual 154, 3) := by decide +kernel
theorem dL_law_1239 : decode cL_law 1239 = .ok (.if_icmp .eq 41, 3) := by decide +kernel
theorem dL_law_1242 : decode cL_law 1242 = .ok (.iconst 0, 1) := by decide +kernel
theorem dL_law_1243 : decode cL_law 1243 = .ok (.ireturn, 1) := by decide +kernel
theorem dL_law_1244 : decode cL_law 1244 = .ok (.aload_n 1, 1) := by decide +kernel
theorem dL_law_1245 : decode cL_law 1245 = .ok (.aload_n 0, 1) := by decide +kernel
theorem dL_law_1246 : decode cL_law 1246 = .ok (.iload_n 3, 1) := by decide +kernel
theorem dL_law_1247 : decode cL_law 1247 = .ok (.iconst 1, 1) := by decide +kernel
theorem dL_law_1248 : decode cL_law 1248 = .ok (.iadd, 1) := by decide +kernel
theorem dL_law_1249 : decode cL_law 1249 = .ok (.iaload, 1) := by decide +kernel
theorem dL_law_1250 : decode cL_law 1250 = .ok (.invokevirtual 155, 3) := by decide +kernel
theorem dL_law_1253 : decode cL_law 1253 = .ok (.aload_n 2, 1) := by decide +kernel
theorem dL_law_1254 : decode cL_law 1254 = .ok (.aload_n 0, 1) := by decide +kernel
theorem dL_law_1255 : decode cL_law 1255 = .ok (.iload_n 3, 1) := by decide +kernel
theorem dL_law_1256 : decode cL_law 1256 = .ok (.iconst 1, 1) := by decide +kernel
theorem dL_law_1257 : decode cL_law 1257 = .ok (.iadd, 1) := by decide +kernel
theorem dL_law_1258 : decode cL_law 1258 = .ok (.iaload, 1) := by decide +kernel
theorem dL_law_1259 : decode cL_law 1259 = .ok (.invokevirtual 158, 3) := by decide +kernel
theorem dL_law_1262 : decode cL_law 1262 = .ok (.if_icmp .eq 18, 3) := by decide +kernel
theorem dL_law_1265 : decode cL_law 1265 = .ok (.iconst 0, 1) := by decide +kernel
theorem dL_law_1266 : decode cL_law 1266 = .ok (.ireturn, 1) := by decide +kernel
theorem dL_law_1267 : decode cL_law 1267 = .ok (.aload_n 1, 1) := by decide +kernel
theorem dL_law_1268 : decode cL_law 1268 = .ok (.invokevirtual 159, 3) := by decide +kernel
theorem dL_law_1271 : decode cL_law 1271 = .ok (.aload_n 2, 1) := by decide +kernel
theorem dL_law_1272 : decode cL_law 1272 = .ok (.invokevirtual 162, 3) := by decide +kernel
theorem dL_law_1275 : decode cL_law 1275 = .ok (.if_icmp .eq 5, 3) := by decide +kernel
theorem dL_law_1278 : decode cL_law 1278 = .ok (.iconst 0, 1) := by decide +kernel
theorem dL_law_1279 : decode cL_law 1279 = .ok (.ireturn, 1) := by decide +kernel
theorem dL_law_1280 : decode cL_law 1280 = .ok (.iinc 3 6, 3) := by decide +kernel
theorem dL_law_1283 : decode cL_law 1283 = .ok (.goto (-1265), 3) := by decide +kernel
theorem dL_law_1286 : decode cL_law 1286 = .ok (.iconst 1, 1) := by decide +kernel
theorem dL_law_1287 : decode cL_law 1287 = .ok (.ireturn, 1) := by decide +kernel
