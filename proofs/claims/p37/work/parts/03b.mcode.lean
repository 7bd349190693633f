theorem hn_mc0 : lw_tbl[230]? = some (.code (hn_y 0) (hn_c 0) (hn_ml 0) (hn_rt 0)) := by decide +kernel
theorem hn_mc1 : lw_tbl[568]? = some (.code (hn_y 1) (hn_c 1) (hn_ml 1) (hn_rt 1)) := by decide +kernel
theorem hn_mc2 : lw_tbl[564]? = some (.code (hn_y 2) (hn_c 2) (hn_ml 2) (hn_rt 2)) := by decide +kernel
theorem hn_mc3 : lw_tbl[575]? = some (.code (hn_y 3) (hn_c 3) (hn_ml 3) (hn_rt 3)) := by decide +kernel
theorem hn_mc4 : lw_tbl[137]? = some (.code (hn_y 4) (hn_c 4) (hn_ml 4) (hn_rt 4)) := by decide +kernel
theorem hn_mc5 : lw_tbl[317]? = some (.code (hn_y 5) (hn_c 5) (hn_ml 5) (hn_rt 5)) := by decide +kernel
theorem hn_mc6 : lw_tbl[321]? = some (.code (hn_y 6) (hn_c 6) (hn_ml 6) (hn_rt 6)) := by decide +kernel
theorem hn_mc7 : lw_tbl[682]? = some (.code (hn_y 7) (hn_c 7) (hn_ml 7) (hn_rt 7)) := by decide +kernel
theorem hn_mc8 : lw_tbl[154]? = some (.code (hn_y 8) (hn_c 8) (hn_ml 8) (hn_rt 8)) := by decide +kernel
theorem hn_mc9 : lw_tbl[391]? = some (.code (hn_y 9) (hn_c 9) (hn_ml 9) (hn_rt 9)) := by decide +kernel
theorem hn_mc10 : lw_tbl[398]? = some (.code (hn_y 10) (hn_c 10) (hn_ml 10) (hn_rt 10)) := by decide +kernel
theorem hn_mc11 : lw_tbl[402]? = some (.code (hn_y 11) (hn_c 11) (hn_ml 11) (hn_rt 11)) := by decide +kernel
theorem hn_mc12 : lw_tbl[411]? = some (.code (hn_y 12) (hn_c 12) (hn_ml 12) (hn_rt 12)) := by decide +kernel
theorem hn_mc13 : lw_tbl[435]? = some (.code (hn_y 13) (hn_c 13) (hn_ml 13) (hn_rt 13)) := by decide +kernel
theorem hn_mc14 : lw_tbl[427]? = some (.code (hn_y 14) (hn_c 14) (hn_ml 14) (hn_rt 14)) := by decide +kernel
theorem hn_mc15 : lw_tbl[431]? = some (.code (hn_y 15) (hn_c 15) (hn_ml 15) (hn_rt 15)) := by decide +kernel
theorem hn_mc16 : lw_tbl[443]? = some (.code (hn_y 16) (hn_c 16) (hn_ml 16) (hn_rt 16)) := by decide +kernel
theorem hn_mc17 : lw_tbl[447]? = some (.code (hn_y 17) (hn_c 17) (hn_ml 17) (hn_rt 17)) := by decide +kernel
theorem hn_mc18 : lw_tbl[454]? = some (.code (hn_y 18) (hn_c 18) (hn_ml 18) (hn_rt 18)) := by decide +kernel
theorem hn_mc19 : lw_tbl[171]? = some (.code (hn_y 19) (hn_c 19) (hn_ml 19) (hn_rt 19)) := by decide +kernel
theorem hn_mc20 : lw_tbl[468]? = some (.code (hn_y 20) (hn_c 20) (hn_ml 20) (hn_rt 20)) := by decide +kernel
theorem hn_mc21 : lw_tbl[520]? = some (.code (hn_y 21) (hn_c 21) (hn_ml 21) (hn_rt 21)) := by decide +kernel
theorem hn_mc22 : lw_tbl[516]? = some (.code (hn_y 22) (hn_c 22) (hn_ml 22) (hn_rt 22)) := by decide +kernel
theorem hn_mc23 : lw_tbl[536]? = some (.code (hn_y 23) (hn_c 23) (hn_ml 23) (hn_rt 23)) := by decide +kernel
theorem hn_mc24 : lw_tbl[556]? = some (.code (hn_y 24) (hn_c 24) (hn_ml 24) (hn_rt 24)) := by decide +kernel
theorem hn_mc25 : lw_tbl[476]? = some (.code (hn_y 25) (hn_c 25) (hn_ml 25) (hn_rt 25)) := by decide +kernel
theorem hn_mc26 : lw_tbl[583]? = some (.code (hn_y 26) (hn_c 26) (hn_ml 26) (hn_rt 26)) := by decide +kernel
theorem hn_mc27 : lw_tbl[480]? = some (.code (hn_y 27) (hn_c 27) (hn_ml 27) (hn_rt 27)) := by decide +kernel
theorem hn_mc28 : lw_tbl[485]? = some (.code (hn_y 28) (hn_c 28) (hn_ml 28) (hn_rt 28)) := by decide +kernel
theorem hn_mc29 : lw_tbl[493]? = some (.code (hn_y 29) (hn_c 29) (hn_ml 29) (hn_rt 29)) := by decide +kernel
theorem hn_mc30 : lw_tbl[496]? = some (.code (hn_y 30) (hn_c 30) (hn_ml 30) (hn_rt 30)) := by decide +kernel
theorem hn_mc31 : lw_tbl[586]? = some (.code (hn_y 31) (hn_c 31) (hn_ml 31) (hn_rt 31)) := by decide +kernel
theorem hn_mc32 : lw_tbl[508]? = some (.code (hn_y 32) (hn_c 32) (hn_ml 32) (hn_rt 32)) := by decide +kernel
theorem hn_mc33 : lw_tbl[512]? = some (.code (hn_y 33) (hn_c 33) (hn_ml 33) (hn_rt 33)) := by decide +kernel
theorem hn_mc34 : lw_tbl[500]? = some (.code (hn_y 34) (hn_c 34) (hn_ml 34) (hn_rt 34)) := by decide +kernel
theorem hn_mc35 : lw_tbl[38]? = some (.code (hn_y 35) (hn_c 35) (hn_ml 35) (hn_rt 35)) := by decide +kernel
theorem hn_mc36 : lw_tbl[298]? = some (.code (hn_y 36) (hn_c 36) (hn_ml 36) (hn_rt 36)) := by decide +kernel
theorem hn_mc37 : lw_tbl[334]? = some (.code (hn_y 37) (hn_c 37) (hn_ml 37) (hn_rt 37)) := by decide +kernel
theorem hn_mc38 : lw_tbl[370]? = some (.code (hn_y 38) (hn_c 38) (hn_ml 38) (hn_rt 38)) := by decide +kernel
theorem hn_mc39 : lw_tbl[528]? = some (.code (hn_y 39) (hn_c 39) (hn_ml 39) (hn_rt 39)) := by decide +kernel
theorem hn_mc40 : lw_tbl[387]? = some (.code (hn_y 40) (hn_c 40) (hn_ml 40) (hn_rt 40)) := by decide +kernel
theorem hn_mc41 : lw_tbl[420]? = some (.code (hn_y 41) (hn_c 41) (hn_ml 41) (hn_rt 41)) := by decide +kernel
theorem hn_mc42 : lw_tbl[416]? = some (.code (hn_y 42) (hn_c 42) (hn_ml 42) (hn_rt 42)) := by decide +kernel
theorem hn_mc43 : lw_tbl[439]? = some (.code (hn_y 43) (hn_c 43) (hn_ml 43) (hn_rt 43)) := by decide +kernel
theorem hn_mc44 : lw_tbl[305]? = some (.code (hn_y 44) (hn_c 44) (hn_ml 44) (hn_rt 44)) := by decide +kernel
theorem hn_mc45 : lw_tbl[330]? = some (.code (hn_y 45) (hn_c 45) (hn_ml 45) (hn_rt 45)) := by decide +kernel
theorem hn_mc46 : lw_tbl[351]? = some (.code (hn_y 46) (hn_c 46) (hn_ml 46) (hn_rt 46)) := by decide +kernel
theorem hn_mc47 : lw_tbl[358]? = some (.code (hn_y 47) (hn_c 47) (hn_ml 47) (hn_rt 47)) := by decide +kernel
theorem hn_mc48 : lw_tbl[366]? = some (.code (hn_y 48) (hn_c 48) (hn_ml 48) (hn_rt 48)) := by decide +kernel
theorem hn_mc49 : lw_tbl[249]? = some (.code (hn_y 49) (hn_c 49) (hn_ml 49) (hn_rt 49)) := by decide +kernel
theorem hn_mc50 : lw_tbl[354]? = some (.code (hn_y 50) (hn_c 50) (hn_ml 50) (hn_rt 50)) := by decide +kernel
theorem hn_mc51 : lw_tbl[622]? = some (.code (hn_y 51) (hn_c 51) (hn_ml 51) (hn_rt 51)) := by decide +kernel
theorem hn_mc52 : lw_tbl[594]? = some (.code (hn_y 52) (hn_c 52) (hn_ml 52) (hn_rt 52)) := by decide +kernel
theorem hn_mc53 : lw_tbl[601]? = some (.code (hn_y 53) (hn_c 53) (hn_ml 53) (hn_rt 53)) := by decide +kernel
theorem hn_mc54 : lw_tbl[598]? = some (.code (hn_y 54) (hn_c 54) (hn_ml 54) (hn_rt 54)) := by decide +kernel
theorem hn_mc55 : lw_tbl[605]? = some (.code (hn_y 55) (hn_c 55) (hn_ml 55) (hn_rt 55)) := by decide +kernel
theorem hn_mc56 : lw_tbl[610]? = some (.code (hn_y 56) (hn_c 56) (hn_ml 56) (hn_rt 56)) := by decide +kernel
theorem hn_mc57 : lw_tbl[30]? = some (.code (hn_y 57) (hn_c 57) (hn_ml 57) (hn_rt 57)) := by decide +kernel
theorem hn_mc58 : lw_tbl[294]? = some (.code (hn_y 58) (hn_c 58) (hn_ml 58) (hn_rt 58)) := by decide +kernel
theorem hn_mc59 : lw_tbl[326]? = some (.code (hn_y 59) (hn_c 59) (hn_ml 59) (hn_rt 59)) := by decide +kernel
theorem hn_mc60 : lw_tbl[354]? = some (.code (hn_y 60) (hn_c 60) (hn_ml 60) (hn_rt 60)) := by decide +kernel
theorem hn_mc61 : lw_tbl[338]? = some (.code (hn_y 61) (hn_c 61) (hn_ml 61) (hn_rt 61)) := by decide +kernel
theorem hn_mc62 : lw_tbl[343]? = some (.code (hn_y 62) (hn_c 62) (hn_ml 62) (hn_rt 62)) := by decide +kernel
theorem hn_mc63 : lw_tbl[655]? = some (.code (hn_y 63) (hn_c 63) (hn_ml 63) (hn_rt 63)) := by decide +kernel
theorem hn_mc64 : lw_tbl[632]? = some (.code (hn_y 64) (hn_c 64) (hn_ml 64) (hn_rt 64)) := by decide +kernel
theorem hn_mc65 : lw_tbl[638]? = some (.code (hn_y 65) (hn_c 65) (hn_ml 65) (hn_rt 65)) := by decide +kernel
theorem hn_mc66 : lw_tbl[354]? = some (.code (hn_y 66) (hn_c 66) (hn_ml 66) (hn_rt 66)) := by decide +kernel
theorem hn_mc67 : lw_tbl[347]? = some (.code (hn_y 67) (hn_c 67) (hn_ml 67) (hn_rt 67)) := by decide +kernel
theorem hn_mc68 : lw_tbl[362]? = some (.code (hn_y 68) (hn_c 68) (hn_ml 68) (hn_rt 68)) := by decide +kernel
theorem hn_mc69 : lw_tbl[374]? = some (.code (hn_y 69) (hn_c 69) (hn_ml 69) (hn_rt 69)) := by decide +kernel
theorem hn_mc70 : lw_tbl[378]? = some (.code (hn_y 70) (hn_c 70) (hn_ml 70) (hn_rt 70)) := by decide +kernel
theorem hn_mc71 : lw_tbl[383]? = some (.code (hn_y 71) (hn_c 71) (hn_ml 71) (hn_rt 71)) := by decide +kernel
theorem hn_mc72 : lw_tbl[660]? = some (.code (hn_y 72) (hn_c 72) (hn_ml 72) (hn_rt 72)) := by decide +kernel
theorem hn_mc73 : lw_tbl[354]? = some (.code (hn_y 73) (hn_c 73) (hn_ml 73) (hn_rt 73)) := by decide +kernel
theorem hn_mc74 : lw_tbl[407]? = some (.code (hn_y 74) (hn_c 74) (hn_ml 74) (hn_rt 74)) := by decide +kernel
theorem hn_mc75 : lw_tbl[354]? = some (.code (hn_y 75) (hn_c 75) (hn_ml 75) (hn_rt 75)) := by decide +kernel
theorem hn_mc76 : lw_tbl[672]? = some (.code (hn_y 76) (hn_c 76) (hn_ml 76) (hn_rt 76)) := by decide +kernel
theorem hn_mc77 : lw_tbl[464]? = some (.code (hn_y 77) (hn_c 77) (hn_ml 77) (hn_rt 77)) := by decide +kernel
theorem hn_mc78 : lw_tbl[524]? = some (.code (hn_y 78) (hn_c 78) (hn_ml 78) (hn_rt 78)) := by decide +kernel
theorem hn_mc79 : lw_tbl[532]? = some (.code (hn_y 79) (hn_c 79) (hn_ml 79) (hn_rt 79)) := by decide +kernel
theorem hn_mc80 : lw_tbl[548]? = some (.code (hn_y 80) (hn_c 80) (hn_ml 80) (hn_rt 80)) := by decide +kernel
theorem hn_mc81 : lw_tbl[552]? = some (.code (hn_y 81) (hn_c 81) (hn_ml 81) (hn_rt 81)) := by decide +kernel
theorem hn_mc82 : lw_tbl[354]? = some (.code (hn_y 82) (hn_c 82) (hn_ml 82) (hn_rt 82)) := by decide +kernel
theorem hn_mc83 : lw_tbl[665]? = some (.code (hn_y 83) (hn_c 83) (hn_ml 83) (hn_rt 83)) := by decide +kernel
theorem hn_mc84 : lw_tbl[560]? = some (.code (hn_y 84) (hn_c 84) (hn_ml 84) (hn_rt 84)) := by decide +kernel
theorem hn_mc85 : lw_tbl[579]? = some (.code (hn_y 85) (hn_c 85) (hn_ml 85) (hn_rt 85)) := by decide +kernel
theorem hn_mc86 : lw_tbl[354]? = some (.code (hn_y 86) (hn_c 86) (hn_ml 86) (hn_rt 86)) := by decide +kernel
theorem hn_mc87 : lw_tbl[354]? = some (.code (hn_y 87) (hn_c 87) (hn_ml 87) (hn_rt 87)) := by decide +kernel
theorem hn_mc88 : lw_tbl[590]? = some (.code (hn_y 88) (hn_c 88) (hn_ml 88) (hn_rt 88)) := by decide +kernel
theorem hn_mc89 : lw_tbl[614]? = some (.code (hn_y 89) (hn_c 89) (hn_ml 89) (hn_rt 89)) := by decide +kernel
theorem hn_mc90 : lw_tbl[678]? = some (.code (hn_y 90) (hn_c 90) (hn_ml 90) (hn_rt 90)) := by decide +kernel
theorem hn_mc91 : lw_tbl[626]? = some (.code (hn_y 91) (hn_c 91) (hn_ml 91) (hn_rt 91)) := by decide +kernel
theorem hn_mc92 : lw_tbl[313]? = some (.code (hn_y 92) (hn_c 92) (hn_ml 92) (hn_rt 92)) := by decide +kernel
theorem hn_mc93 : lw_tbl[618]? = some (.code (hn_y 93) (hn_c 93) (hn_ml 93) (hn_rt 93)) := by decide +kernel
theorem hn_mc94 : lw_tbl[308]? = some (.code (hn_y 94) (hn_c 94) (hn_ml 94) (hn_rt 94)) := by decide +kernel
theorem hn_mc95 : lw_tbl[354]? = some (.code (hn_y 95) (hn_c 95) (hn_ml 95) (hn_rt 95)) := by decide +kernel
theorem hn_mc96 : lw_tbl[641]? = some (.code (hn_y 96) (hn_c 96) (hn_ml 96) (hn_rt 96)) := by decide +kernel
theorem hn_mc97 : lw_tbl[644]? = some (.code (hn_y 97) (hn_c 97) (hn_ml 97) (hn_rt 97)) := by decide +kernel
theorem hn_mc98 : lw_tbl[648]? = some (.code (hn_y 98) (hn_c 98) (hn_ml 98) (hn_rt 98)) := by decide +kernel
theorem hn_mc99 : lw_tbl[651]? = some (.code (hn_y 99) (hn_c 99) (hn_ml 99) (hn_rt 99)) := by decide +kernel
theorem hn_mc100 : lw_tbl[668]? = some (.code (hn_y 100) (hn_c 100) (hn_ml 100) (hn_rt 100)) := by decide +kernel
theorem hn_mc101 : lw_tbl[354]? = some (.code (hn_y 101) (hn_c 101) (hn_ml 101) (hn_rt 101)) := by decide +kernel
theorem hn_mc102 : lw_tbl[354]? = some (.code (hn_y 102) (hn_c 102) (hn_ml 102) (hn_rt 102)) := by decide +kernel
theorem hn_mc103 : lw_tbl[354]? = some (.code (hn_y 103) (hn_c 103) (hn_ml 103) (hn_rt 103)) := by decide +kernel
theorem hn_mc104 : lw_tbl[354]? = some (.code (hn_y 104) (hn_c 104) (hn_ml 104) (hn_rt 104)) := by decide +kernel
theorem hn_mc105 : lw_tbl[354]? = some (.code (hn_y 105) (hn_c 105) (hn_ml 105) (hn_rt 105)) := by decide +kernel
theorem hn_mc106 : lw_tbl[354]? = some (.code (hn_y 106) (hn_c 106) (hn_ml 106) (hn_rt 106)) := by decide +kernel
theorem hn_mc107 : lw_tbl[354]? = some (.code (hn_y 107) (hn_c 107) (hn_ml 107) (hn_rt 107)) := by decide +kernel
theorem hn_mc108 : lw_tbl[354]? = some (.code (hn_y 108) (hn_c 108) (hn_ml 108) (hn_rt 108)) := by decide +kernel
theorem hn_mc109 : lw_tbl[354]? = some (.code (hn_y 109) (hn_c 109) (hn_ml 109) (hn_rt 109)) := by decide +kernel
theorem hn_mc110 : lw_tbl[354]? = some (.code (hn_y 110) (hn_c 110) (hn_ml 110) (hn_rt 110)) := by decide +kernel
theorem hn_mc111 : lw_tbl[354]? = some (.code (hn_y 111) (hn_c 111) (hn_ml 111) (hn_rt 111)) := by decide +kernel
theorem hn_mc112 : lw_tbl[354]? = some (.code (hn_y 112) (hn_c 112) (hn_ml 112) (hn_rt 112)) := by decide +kernel
theorem hn_mc113 : lw_tbl[354]? = some (.code (hn_y 113) (hn_c 113) (hn_ml 113) (hn_rt 113)) := by decide +kernel
theorem hn_mc114 : lw_tbl[354]? = some (.code (hn_y 114) (hn_c 114) (hn_ml 114) (hn_rt 114)) := by decide +kernel
theorem hn_mc115 : lw_tbl[354]? = some (.code (hn_y 115) (hn_c 115) (hn_ml 115) (hn_rt 115)) := by decide +kernel
theorem hn_mc116 : lw_tbl[354]? = some (.code (hn_y 116) (hn_c 116) (hn_ml 116) (hn_rt 116)) := by decide +kernel
theorem hn_mc117 : lw_tbl[354]? = some (.code (hn_y 117) (hn_c 117) (hn_ml 117) (hn_rt 117)) := by decide +kernel
theorem hn_mc118 : lw_tbl[354]? = some (.code (hn_y 118) (hn_c 118) (hn_ml 118) (hn_rt 118)) := by decide +kernel
theorem hn_mc119 : lw_tbl[354]? = some (.code (hn_y 119) (hn_c 119) (hn_ml 119) (hn_rt 119)) := by decide +kernel
theorem hn_mc120 : lw_tbl[354]? = some (.code (hn_y 120) (hn_c 120) (hn_ml 120) (hn_rt 120)) := by decide +kernel
theorem hn_mc121 : lw_tbl[354]? = some (.code (hn_y 121) (hn_c 121) (hn_ml 121) (hn_rt 121)) := by decide +kernel
theorem hn_mc122 : lw_tbl[354]? = some (.code (hn_y 122) (hn_c 122) (hn_ml 122) (hn_rt 122)) := by decide +kernel
theorem hn_mc123 : lw_tbl[354]? = some (.code (hn_y 123) (hn_c 123) (hn_ml 123) (hn_rt 123)) := by decide +kernel
theorem hn_mc124 : lw_tbl[354]? = some (.code (hn_y 124) (hn_c 124) (hn_ml 124) (hn_rt 124)) := by decide +kernel
theorem hn_mc125 : lw_tbl[354]? = some (.code (hn_y 125) (hn_c 125) (hn_ml 125) (hn_rt 125)) := by decide +kernel
theorem hn_mc126 : lw_tbl[354]? = some (.code (hn_y 126) (hn_c 126) (hn_ml 126) (hn_rt 126)) := by decide +kernel
theorem hn_mc127 : lw_tbl[354]? = some (.code (hn_y 127) (hn_c 127) (hn_ml 127) (hn_rt 127)) := by decide +kernel
theorem hn_mc128 : lw_tbl[354]? = some (.code (hn_y 128) (hn_c 128) (hn_ml 128) (hn_rt 128)) := by decide +kernel
theorem hn_mc129 : lw_tbl[354]? = some (.code (hn_y 129) (hn_c 129) (hn_ml 129) (hn_rt 129)) := by decide +kernel
theorem hn_mc130 : lw_tbl[354]? = some (.code (hn_y 130) (hn_c 130) (hn_ml 130) (hn_rt 130)) := by decide +kernel
theorem hn_mc131 : lw_tbl[354]? = some (.code (hn_y 131) (hn_c 131) (hn_ml 131) (hn_rt 131)) := by decide +kernel
theorem hn_mc132 : lw_tbl[354]? = some (.code (hn_y 132) (hn_c 132) (hn_ml 132) (hn_rt 132)) := by decide +kernel
theorem hn_mc133 : lw_tbl[354]? = some (.code (hn_y 133) (hn_c 133) (hn_ml 133) (hn_rt 133)) := by decide +kernel
theorem hn_mc134 : lw_tbl[354]? = some (.code (hn_y 134) (hn_c 134) (hn_ml 134) (hn_rt 134)) := by decide +kernel
theorem hn_mc135 : lw_tbl[354]? = some (.code (hn_y 135) (hn_c 135) (hn_ml 135) (hn_rt 135)) := by decide +kernel
theorem hn_mc136 : lw_tbl[354]? = some (.code (hn_y 136) (hn_c 136) (hn_ml 136) (hn_rt 136)) := by decide +kernel
theorem hn_mc137 : lw_tbl[354]? = some (.code (hn_y 137) (hn_c 137) (hn_ml 137) (hn_rt 137)) := by decide +kernel
theorem hn_mc138 : lw_tbl[354]? = some (.code (hn_y 138) (hn_c 138) (hn_ml 138) (hn_rt 138)) := by decide +kernel
theorem hn_mc139 : lw_tbl[354]? = some (.code (hn_y 139) (hn_c 139) (hn_ml 139) (hn_rt 139)) := by decide +kernel
theorem hn_mc140 : lw_tbl[354]? = some (.code (hn_y 140) (hn_c 140) (hn_ml 140) (hn_rt 140)) := by decide +kernel
theorem hn_mc141 : lw_tbl[354]? = some (.code (hn_y 141) (hn_c 141) (hn_ml 141) (hn_rt 141)) := by decide +kernel
theorem hn_mc142 : lw_tbl[354]? = some (.code (hn_y 142) (hn_c 142) (hn_ml 142) (hn_rt 142)) := by decide +kernel
theorem hn_mc143 : lw_tbl[354]? = some (.code (hn_y 143) (hn_c 143) (hn_ml 143) (hn_rt 143)) := by decide +kernel
theorem hn_mc144 : lw_tbl[354]? = some (.code (hn_y 144) (hn_c 144) (hn_ml 144) (hn_rt 144)) := by decide +kernel
theorem hn_mc145 : lw_tbl[354]? = some (.code (hn_y 145) (hn_c 145) (hn_ml 145) (hn_rt 145)) := by decide +kernel
theorem hn_mc146 : lw_tbl[354]? = some (.code (hn_y 146) (hn_c 146) (hn_ml 146) (hn_rt 146)) := by decide +kernel
theorem hn_mc147 : lw_tbl[354]? = some (.code (hn_y 147) (hn_c 147) (hn_ml 147) (hn_rt 147)) := by decide +kernel
theorem hn_mc148 : lw_tbl[354]? = some (.code (hn_y 148) (hn_c 148) (hn_ml 148) (hn_rt 148)) := by decide +kernel
theorem hn_mc149 : lw_tbl[354]? = some (.code (hn_y 149) (hn_c 149) (hn_ml 149) (hn_rt 149)) := by decide +kernel
theorem hn_mc150 : lw_tbl[354]? = some (.code (hn_y 150) (hn_c 150) (hn_ml 150) (hn_rt 150)) := by decide +kernel
theorem hn_mc151 : lw_tbl[354]? = some (.code (hn_y 151) (hn_c 151) (hn_ml 151) (hn_rt 151)) := by decide +kernel
theorem hn_mc152 : lw_tbl[354]? = some (.code (hn_y 152) (hn_c 152) (hn_ml 152) (hn_rt 152)) := by decide +kernel
theorem hn_mc153 : lw_tbl[354]? = some (.code (hn_y 153) (hn_c 153) (hn_ml 153) (hn_rt 153)) := by decide +kernel
theorem hn_mc154 : lw_tbl[354]? = some (.code (hn_y 154) (hn_c 154) (hn_ml 154) (hn_rt 154)) := by decide +kernel
theorem hn_mc155 : lw_tbl[354]? = some (.code (hn_y 155) (hn_c 155) (hn_ml 155) (hn_rt 155)) := by decide +kernel
theorem hn_mc156 : lw_tbl[354]? = some (.code (hn_y 156) (hn_c 156) (hn_ml 156) (hn_rt 156)) := by decide +kernel
theorem hn_mc157 : lw_tbl[354]? = some (.code (hn_y 157) (hn_c 157) (hn_ml 157) (hn_rt 157)) := by decide +kernel
theorem hn_mc158 : lw_tbl[354]? = some (.code (hn_y 158) (hn_c 158) (hn_ml 158) (hn_rt 158)) := by decide +kernel
theorem hn_mc159 : lw_tbl[354]? = some (.code (hn_y 159) (hn_c 159) (hn_ml 159) (hn_rt 159)) := by decide +kernel
theorem hn_mc160 : lw_tbl[354]? = some (.code (hn_y 160) (hn_c 160) (hn_ml 160) (hn_rt 160)) := by decide +kernel
theorem hn_mc161 : lw_tbl[354]? = some (.code (hn_y 161) (hn_c 161) (hn_ml 161) (hn_rt 161)) := by decide +kernel
theorem hn_mc162 : lw_tbl[354]? = some (.code (hn_y 162) (hn_c 162) (hn_ml 162) (hn_rt 162)) := by decide +kernel
theorem hn_mc163 : lw_tbl[540]? = some (.code (hn_y 163) (hn_c 163) (hn_ml 163) (hn_rt 163)) := by decide +kernel
theorem hn_mc164 : lw_tbl[423]? = some (.code (hn_y 164) (hn_c 164) (hn_ml 164) (hn_rt 164)) := by decide +kernel
theorem hn_mc165 : lw_tbl[450]? = some (.code (hn_y 165) (hn_c 165) (hn_ml 165) (hn_rt 165)) := by decide +kernel
theorem hn_mc166 : lw_tbl[488]? = some (.code (hn_y 166) (hn_c 166) (hn_ml 166) (hn_rt 166)) := by decide +kernel
theorem hn_mc167 : lw_tbl[394]? = some (.code (hn_y 167) (hn_c 167) (hn_ml 167) (hn_rt 167)) := by decide +kernel
theorem hn_mcode : ∀ t, t < 168 → lw_tbl[hn_pcode t]? = some (.code (hn_y t) (hn_c t) (hn_ml t) (hn_rt t)) := by
  intro t ht
  match t, ht with
  | 0, _ => exact hn_mc0
  | 1, _ => exact hn_mc1
  | 2, _ => exact hn_mc2
  | 3, _ => exact hn_mc3
  | 4, _ => exact hn_mc4
  | 5, _ => exact hn_mc5
  | 6, _ => exact hn_mc6
  | 7, _ => exact hn_mc7
  | 8, _ => exact hn_mc8
  | 9, _ => exact hn_mc9
  | 10, _ => exact hn_mc10
  | 11, _ => exact hn_mc11
  | 12, _ => exact hn_mc12
  | 13, _ => exact hn_mc13
  | 14, _ => exact hn_mc14
  | 15, _ => exact hn_mc15
  | 16, _ => exact hn_mc16
  | 17, _ => exact hn_mc17
  | 18, _ => exact hn_mc18
  | 19, _ => exact hn_mc19
  | 20, _ => exact hn_mc20
  | 21, _ => exact hn_mc21
  | 22, _ => exact hn_mc22
  | 23, _ => exact hn_mc23
  | 24, _ => exact hn_mc24
  | 25, _ => exact hn_mc25
  | 26, _ => exact hn_mc26
  | 27, _ => exact hn_mc27
  | 28, _ => exact hn_mc28
  | 29, _ => exact hn_mc29
  | 30, _ => exact hn_mc30
  | 31, _ => exact hn_mc31
  | 32, _ => exact hn_mc32
  | 33, _ => exact hn_mc33
  | 34, _ => exact hn_mc34
  | 35, _ => exact hn_mc35
  | 36, _ => exact hn_mc36
  | 37, _ => exact hn_mc37
  | 38, _ => exact hn_mc38
  | 39, _ => exact hn_mc39
  | 40, _ => exact hn_mc40
  | 41, _ => exact hn_mc41
  | 42, _ => exact hn_mc42
  | 43, _ => exact hn_mc43
  | 44, _ => exact hn_mc44
  | 45, _ => exact hn_mc45
  | 46, _ => exact hn_mc46
  | 47, _ => exact hn_mc47
  | 48, _ => exact hn_mc48
  | 49, _ => exact hn_mc49
  | 50, _ => exact hn_mc50
  | 51, _ => exact hn_mc51
  | 52, _ => exact hn_mc52
  | 53, _ => exact hn_mc53
  | 54, _ => exact hn_mc54
  | 55, _ => exact hn_mc55
  | 56, _ => exact hn_mc56
  | 57, _ => exact hn_mc57
  | 58, _ => exact hn_mc58
  | 59, _ => exact hn_mc59
  | 60, _ => exact hn_mc60
  | 61, _ => exact hn_mc61
  | 62, _ => exact hn_mc62
  | 63, _ => exact hn_mc63
  | 64, _ => exact hn_mc64
  | 65, _ => exact hn_mc65
  | 66, _ => exact hn_mc66
  | 67, _ => exact hn_mc67
  | 68, _ => exact hn_mc68
  | 69, _ => exact hn_mc69
  | 70, _ => exact hn_mc70
  | 71, _ => exact hn_mc71
  | 72, _ => exact hn_mc72
  | 73, _ => exact hn_mc73
  | 74, _ => exact hn_mc74
  | 75, _ => exact hn_mc75
  | 76, _ => exact hn_mc76
  | 77, _ => exact hn_mc77
  | 78, _ => exact hn_mc78
  | 79, _ => exact hn_mc79
  | 80, _ => exact hn_mc80
  | 81, _ => exact hn_mc81
  | 82, _ => exact hn_mc82
  | 83, _ => exact hn_mc83
  | 84, _ => exact hn_mc84
  | 85, _ => exact hn_mc85
  | 86, _ => exact hn_mc86
  | 87, _ => exact hn_mc87
  | 88, _ => exact hn_mc88
  | 89, _ => exact hn_mc89
  | 90, _ => exact hn_mc90
  | 91, _ => exact hn_mc91
  | 92, _ => exact hn_mc92
  | 93, _ => exact hn_mc93
  | 94, _ => exact hn_mc94
  | 95, _ => exact hn_mc95
  | 96, _ => exact hn_mc96
  | 97, _ => exact hn_mc97
  | 98, _ => exact hn_mc98
  | 99, _ => exact hn_mc99
  | 100, _ => exact hn_mc100
  | 101, _ => exact hn_mc101
  | 102, _ => exact hn_mc102
  | 103, _ => exact hn_mc103
  | 104, _ => exact hn_mc104
  | 105, _ => exact hn_mc105
  | 106, _ => exact hn_mc106
  | 107, _ => exact hn_mc107
  | 108, _ => exact hn_mc108
  | 109, _ => exact hn_mc109
  | 110, _ => exact hn_mc110
  | 111, _ => exact hn_mc111
  | 112, _ => exact hn_mc112
  | 113, _ => exact hn_mc113
  | 114, _ => exact hn_mc114
  | 115, _ => exact hn_mc115
  | 116, _ => exact hn_mc116
  | 117, _ => exact hn_mc117
  | 118, _ => exact hn_mc118
  | 119, _ => exact hn_mc119
  | 120, _ => exact hn_mc120
  | 121, _ => exact hn_mc121
  | 122, _ => exact hn_mc122
  | 123, _ => exact hn_mc123
  | 124, _ => exact hn_mc124
  | 125, _ => exact hn_mc125
  | 126, _ => exact hn_mc126
  | 127, _ => exact hn_mc127
  | 128, _ => exact hn_mc128
  | 129, _ => exact hn_mc129
  | 130, _ => exact hn_mc130
  | 131, _ => exact hn_mc131
  | 132, _ => exact hn_mc132
  | 133, _ => exact hn_mc133
  | 134, _ => exact hn_mc134
  | 135, _ => exact hn_mc135
  | 136, _ => exact hn_mc136
  | 137, _ => exact hn_mc137
  | 138, _ => exact hn_mc138
  | 139, _ => exact hn_mc139
  | 140, _ => exact hn_mc140
  | 141, _ => exact hn_mc141
  | 142, _ => exact hn_mc142
  | 143, _ => exact hn_mc143
  | 144, _ => exact hn_mc144
  | 145, _ => exact hn_mc145
  | 146, _ => exact hn_mc146
  | 147, _ => exact hn_mc147
  | 148, _ => exact hn_mc148
  | 149, _ => exact hn_mc149
  | 150, _ => exact hn_mc150
  | 151, _ => exact hn_mc151
  | 152, _ => exact hn_mc152
  | 153, _ => exact hn_mc153
  | 154, _ => exact hn_mc154
  | 155, _ => exact hn_mc155
  | 156, _ => exact hn_mc156
  | 157, _ => exact hn_mc157
  | 158, _ => exact hn_mc158
  | 159, _ => exact hn_mc159
  | 160, _ => exact hn_mc160
  | 161, _ => exact hn_mc161
  | 162, _ => exact hn_mc162
  | 163, _ => exact hn_mc163
  | 164, _ => exact hn_mc164
  | 165, _ => exact hn_mc165
  | 166, _ => exact hn_mc166
  | 167, _ => exact hn_mc167
  | n + 168, h => exact absurd h (by omega)
