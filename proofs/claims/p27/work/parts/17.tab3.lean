/-! ===== the words of the methods ===== -/
theorem mt0 : mtOK 0 = true := by decide +kernel
set_option maxRecDepth 100000 in
theorem cw0 : lw_tbl[214]? = some (mtC 0) := rfl
theorem gw0 : goodWord (mtC 0) = true := rfl
theorem mt1 : mtOK 1 = true := by decide +kernel
set_option maxRecDepth 100000 in
theorem cw1 : lw_tbl[1245]? = some (mtC 1) := rfl
theorem gw1 : goodWord (mtC 1) = true := rfl
theorem mt2 : mtOK 2 = true := by decide +kernel
set_option maxRecDepth 100000 in
theorem cw2 : lw_tbl[1258]? = some (mtC 2) := rfl
theorem gw2 : goodWord (mtC 2) = true := rfl
theorem mt3 : mtOK 3 = true := by decide +kernel
set_option maxRecDepth 100000 in
theorem cw3 : lw_tbl[1250]? = some (mtC 3) := rfl
theorem gw3 : goodWord (mtC 3) = true := rfl
theorem mt4 : mtOK 4 = true := by decide +kernel
set_option maxRecDepth 100000 in
theorem cw4 : lw_tbl[1278]? = some (mtC 4) := rfl
theorem gw4 : goodWord (mtC 4) = true := rfl
theorem mt5 : mtOK 5 = true := by decide +kernel
set_option maxRecDepth 100000 in
theorem cw5 : lw_tbl[1286]? = some (mtC 5) := rfl
theorem gw5 : goodWord (mtC 5) = true := rfl
theorem mt6 : mtOK 6 = true := by decide +kernel
set_option maxRecDepth 100000 in
theorem cw6 : lw_tbl[1306]? = some (mtC 6) := rfl
theorem gw6 : goodWord (mtC 6) = true := rfl
theorem mt7 : mtOK 7 = true := by decide +kernel
set_option maxRecDepth 100000 in
theorem cw7 : lw_tbl[1290]? = some (mtC 7) := rfl
theorem gw7 : goodWord (mtC 7) = true := rfl
theorem mt8 : mtOK 8 = true := by decide +kernel
set_option maxRecDepth 100000 in
theorem cw8 : lw_tbl[1294]? = some (mtC 8) := rfl
theorem gw8 : goodWord (mtC 8) = true := rfl
theorem mt9 : mtOK 9 = true := by decide +kernel
set_option maxRecDepth 100000 in
theorem cw9 : lw_tbl[1336]? = some (mtC 9) := rfl
theorem gw9 : goodWord (mtC 9) = true := rfl
theorem mt10 : mtOK 10 = true := by decide +kernel
set_option maxRecDepth 100000 in
theorem cw10 : lw_tbl[260]? = some (mtC 10) := rfl
theorem gw10 : goodWord (mtC 10) = true := rfl
theorem mt11 : mtOK 11 = true := by decide +kernel
set_option maxRecDepth 100000 in
theorem cw11 : lw_tbl[1435]? = some (mtC 11) := rfl
theorem gw11 : goodWord (mtC 11) = true := rfl
theorem mt12 : mtOK 12 = true := by decide +kernel
set_option maxRecDepth 100000 in
theorem cw12 : lw_tbl[850]? = some (mtC 12) := rfl
theorem gw12 : goodWord (mtC 12) = true := rfl
theorem mt13 : mtOK 13 = true := by decide +kernel
set_option maxRecDepth 100000 in
theorem cw13 : lw_tbl[652]? = some (mtC 13) := rfl
theorem gw13 : goodWord (mtC 13) = true := rfl
theorem mt14 : mtOK 14 = true := by decide +kernel
set_option maxRecDepth 100000 in
theorem cw14 : lw_tbl[554]? = some (mtC 14) := rfl
theorem gw14 : goodWord (mtC 14) = true := rfl
theorem mt15 : mtOK 15 = true := by decide +kernel
set_option maxRecDepth 100000 in
theorem cw15 : lw_tbl[828]? = some (mtC 15) := rfl
theorem gw15 : goodWord (mtC 15) = true := rfl
theorem mt16 : mtOK 16 = true := by decide +kernel
set_option maxRecDepth 100000 in
theorem cw16 : lw_tbl[639]? = some (mtC 16) := rfl
theorem gw16 : goodWord (mtC 16) = true := rfl
theorem mt17 : mtOK 17 = true := by decide +kernel
set_option maxRecDepth 100000 in
theorem cw17 : lw_tbl[550]? = some (mtC 17) := rfl
theorem gw17 : goodWord (mtC 17) = true := rfl
theorem mt18 : mtOK 18 = true := by decide +kernel
set_option maxRecDepth 100000 in
theorem cw18 : lw_tbl[546]? = some (mtC 18) := rfl
theorem gw18 : goodWord (mtC 18) = true := rfl
theorem mt19 : mtOK 19 = true := by decide +kernel
set_option maxRecDepth 100000 in
theorem cw19 : lw_tbl[622]? = some (mtC 19) := rfl
theorem gw19 : goodWord (mtC 19) = true := rfl
theorem mt20 : mtOK 20 = true := by decide +kernel
set_option maxRecDepth 100000 in
theorem cw20 : lw_tbl[643]? = some (mtC 20) := rfl
theorem gw20 : goodWord (mtC 20) = true := rfl
theorem mt21 : mtOK 21 = true := by decide +kernel
set_option maxRecDepth 100000 in
theorem cw21 : lw_tbl[498]? = some (mtC 21) := rfl
theorem gw21 : goodWord (mtC 21) = true := rfl
theorem mt22 : mtOK 22 = true := by decide +kernel
set_option maxRecDepth 100000 in
theorem cw22 : lw_tbl[709]? = some (mtC 22) := rfl
theorem gw22 : goodWord (mtC 22) = true := rfl
theorem mt23 : mtOK 23 = true := by decide +kernel
set_option maxRecDepth 100000 in
theorem cw23 : lw_tbl[713]? = some (mtC 23) := rfl
theorem gw23 : goodWord (mtC 23) = true := rfl
theorem mt24 : mtOK 24 = true := by decide +kernel
set_option maxRecDepth 100000 in
theorem cw24 : lw_tbl[780]? = some (mtC 24) := rfl
theorem gw24 : goodWord (mtC 24) = true := rfl
theorem mt25 : mtOK 25 = true := by decide +kernel
set_option maxRecDepth 100000 in
theorem cw25 : lw_tbl[815]? = some (mtC 25) := rfl
theorem gw25 : goodWord (mtC 25) = true := rfl
theorem mt26 : mtOK 26 = true := by decide +kernel
set_option maxRecDepth 100000 in
theorem cw26 : lw_tbl[820]? = some (mtC 26) := rfl
theorem gw26 : goodWord (mtC 26) = true := rfl
theorem mt27 : mtOK 27 = true := by decide +kernel
set_option maxRecDepth 100000 in
theorem cw27 : lw_tbl[824]? = some (mtC 27) := rfl
theorem gw27 : goodWord (mtC 27) = true := rfl
theorem mt28 : mtOK 28 = true := by decide +kernel
set_option maxRecDepth 100000 in
theorem cw28 : lw_tbl[832]? = some (mtC 28) := rfl
theorem gw28 : goodWord (mtC 28) = true := rfl
theorem mt29 : mtOK 29 = true := by decide +kernel
set_option maxRecDepth 100000 in
theorem cw29 : lw_tbl[836]? = some (mtC 29) := rfl
theorem gw29 : goodWord (mtC 29) = true := rfl
theorem mt30 : mtOK 30 = true := by decide +kernel
set_option maxRecDepth 100000 in
theorem cw30 : lw_tbl[840]? = some (mtC 30) := rfl
theorem gw30 : goodWord (mtC 30) = true := rfl
theorem mt31 : mtOK 31 = true := by decide +kernel
set_option maxRecDepth 100000 in
theorem cw31 : lw_tbl[232]? = some (mtC 31) := rfl
theorem gw31 : goodWord (mtC 31) = true := rfl
theorem mt32 : mtOK 32 = true := by decide +kernel
set_option maxRecDepth 100000 in
theorem cw32 : lw_tbl[1369]? = some (mtC 32) := rfl
theorem gw32 : goodWord (mtC 32) = true := rfl
theorem mt33 : mtOK 33 = true := by decide +kernel
set_option maxRecDepth 100000 in
theorem cw33 : lw_tbl[1376]? = some (mtC 33) := rfl
theorem gw33 : goodWord (mtC 33) = true := rfl
theorem mt34 : mtOK 34 = true := by decide +kernel
set_option maxRecDepth 100000 in
theorem cw34 : lw_tbl[1402]? = some (mtC 34) := rfl
theorem gw34 : goodWord (mtC 34) = true := rfl
theorem mt35 : mtOK 35 = true := by decide +kernel
set_option maxRecDepth 100000 in
theorem cw35 : lw_tbl[1423]? = some (mtC 35) := rfl
theorem gw35 : goodWord (mtC 35) = true := rfl
theorem mt36 : mtOK 36 = true := by decide +kernel
set_option maxRecDepth 100000 in
theorem cw36 : lw_tbl[1431]? = some (mtC 36) := rfl
theorem gw36 : goodWord (mtC 36) = true := rfl
theorem mt37 : mtOK 37 = true := by decide +kernel
set_option maxRecDepth 100000 in
theorem cw37 : lw_tbl[1396]? = some (mtC 37) := rfl
theorem gw37 : goodWord (mtC 37) = true := rfl
theorem mt38 : mtOK 38 = true := by decide +kernel
set_option maxRecDepth 100000 in
theorem cw38 : lw_tbl[1383]? = some (mtC 38) := rfl
theorem gw38 : goodWord (mtC 38) = true := rfl
theorem mt39 : mtOK 39 = true := by decide +kernel
set_option maxRecDepth 100000 in
theorem cw39 : lw_tbl[1406]? = some (mtC 39) := rfl
theorem gw39 : goodWord (mtC 39) = true := rfl
theorem mt40 : mtOK 40 = true := by decide +kernel
set_option maxRecDepth 100000 in
theorem cw40 : lw_tbl[1392]? = some (mtC 40) := rfl
theorem gw40 : goodWord (mtC 40) = true := rfl
theorem mt41 : mtOK 41 = true := by decide +kernel
set_option maxRecDepth 100000 in
theorem cw41 : lw_tbl[1414]? = some (mtC 41) := rfl
theorem gw41 : goodWord (mtC 41) = true := rfl
theorem mt42 : mtOK 42 = true := by decide +kernel
set_option maxRecDepth 100000 in
theorem cw42 : lw_tbl[102]? = some (mtC 42) := rfl
theorem gw42 : goodWord (mtC 42) = true := rfl
theorem mt43 : mtOK 43 = true := by decide +kernel
set_option maxRecDepth 100000 in
theorem cw43 : lw_tbl[1199]? = some (mtC 43) := rfl
theorem gw43 : goodWord (mtC 43) = true := rfl
theorem mt44 : mtOK 44 = true := by decide +kernel
set_option maxRecDepth 100000 in
theorem cw44 : lw_tbl[1332]? = some (mtC 44) := rfl
theorem gw44 : goodWord (mtC 44) = true := rfl
theorem mt45 : mtOK 45 = true := by decide +kernel
set_option maxRecDepth 100000 in
theorem cw45 : lw_tbl[721]? = some (mtC 45) := rfl
theorem gw45 : goodWord (mtC 45) = true := rfl
theorem mt46 : mtOK 46 = true := by decide +kernel
set_option maxRecDepth 100000 in
theorem cw46 : lw_tbl[1419]? = some (mtC 46) := rfl
theorem gw46 : goodWord (mtC 46) = true := rfl
theorem mt47 : mtOK 47 = true := by decide +kernel
set_option maxRecDepth 100000 in
theorem cw47 : lw_tbl[1427]? = some (mtC 47) := rfl
theorem gw47 : goodWord (mtC 47) = true := rfl
theorem mt48 : mtOK 48 = true := by decide +kernel
set_option maxRecDepth 100000 in
theorem cw48 : lw_tbl[1359]? = some (mtC 48) := rfl
theorem gw48 : goodWord (mtC 48) = true := rfl
theorem mt49 : mtOK 49 = true := by decide +kernel
set_option maxRecDepth 100000 in
theorem cw49 : lw_tbl[790]? = some (mtC 49) := rfl
theorem gw49 : goodWord (mtC 49) = true := rfl
theorem mt50 : mtOK 50 = true := by decide +kernel
set_option maxRecDepth 100000 in
theorem cw50 : lw_tbl[784]? = some (mtC 50) := rfl
theorem gw50 : goodWord (mtC 50) = true := rfl
theorem mt51 : mtOK 51 = true := by decide +kernel
set_option maxRecDepth 100000 in
theorem cw51 : lw_tbl[335]? = some (mtC 51) := rfl
theorem gw51 : goodWord (mtC 51) = true := rfl
theorem mt52 : mtOK 52 = true := by decide +kernel
set_option maxRecDepth 100000 in
theorem cw52 : lw_tbl[717]? = some (mtC 52) := rfl
theorem gw52 : goodWord (mtC 52) = true := rfl
theorem mt53 : mtOK 53 = true := by decide +kernel
set_option maxRecDepth 100000 in
theorem cw53 : lw_tbl[755]? = some (mtC 53) := rfl
theorem gw53 : goodWord (mtC 53) = true := rfl
theorem mt54 : mtOK 54 = true := by decide +kernel
set_option maxRecDepth 100000 in
theorem cw54 : lw_tbl[733]? = some (mtC 54) := rfl
theorem gw54 : goodWord (mtC 54) = true := rfl
theorem mt55 : mtOK 55 = true := by decide +kernel
set_option maxRecDepth 100000 in
theorem cw55 : lw_tbl[736]? = some (mtC 55) := rfl
theorem gw55 : goodWord (mtC 55) = true := rfl
theorem mt56 : mtOK 56 = true := by decide +kernel
set_option maxRecDepth 100000 in
theorem cw56 : lw_tbl[751]? = some (mtC 56) := rfl
theorem gw56 : goodWord (mtC 56) = true := rfl
theorem mt57 : mtOK 57 = true := by decide +kernel
set_option maxRecDepth 100000 in
theorem cw57 : lw_tbl[760]? = some (mtC 57) := rfl
theorem gw57 : goodWord (mtC 57) = true := rfl
theorem mt58 : mtOK 58 = true := by decide +kernel
set_option maxRecDepth 100000 in
theorem cw58 : lw_tbl[266]? = some (mtC 58) := rfl
theorem gw58 : goodWord (mtC 58) = true := rfl
theorem mt59 : mtOK 59 = true := by decide +kernel
set_option maxRecDepth 100000 in
theorem cw59 : lw_tbl[1439]? = some (mtC 59) := rfl
theorem gw59 : goodWord (mtC 59) = true := rfl
theorem mt60 : mtOK 60 = true := by decide +kernel
set_option maxRecDepth 100000 in
theorem cw60 : lw_tbl[854]? = some (mtC 60) := rfl
theorem gw60 : goodWord (mtC 60) = true := rfl
theorem mt61 : mtOK 61 = true := by decide +kernel
set_option maxRecDepth 100000 in
theorem cw61 : lw_tbl[803]? = some (mtC 61) := rfl
theorem gw61 : goodWord (mtC 61) = true := rfl
theorem mt62 : mtOK 62 = true := by decide +kernel
set_option maxRecDepth 100000 in
theorem cw62 : lw_tbl[807]? = some (mtC 62) := rfl
theorem gw62 : goodWord (mtC 62) = true := rfl
theorem mt63 : mtOK 63 = true := by decide +kernel
set_option maxRecDepth 100000 in
theorem cw63 : lw_tbl[798]? = some (mtC 63) := rfl
theorem gw63 : goodWord (mtC 63) = true := rfl
theorem mt64 : mtOK 64 = true := by decide +kernel
set_option maxRecDepth 100000 in
theorem cw64 : lw_tbl[811]? = some (mtC 64) := rfl
theorem gw64 : goodWord (mtC 64) = true := rfl
theorem mt65 : mtOK 65 = true := by decide +kernel
set_option maxRecDepth 100000 in
theorem cw65 : lw_tbl[506]? = some (mtC 65) := rfl
theorem gw65 : goodWord (mtC 65) = true := rfl
theorem mt66 : mtOK 66 = true := by decide +kernel
set_option maxRecDepth 100000 in
theorem cw66 : lw_tbl[502]? = some (mtC 66) := rfl
theorem gw66 : goodWord (mtC 66) = true := rfl
theorem mt67 : mtOK 67 = true := by decide +kernel
set_option maxRecDepth 100000 in
theorem cw67 : lw_tbl[1105]? = some (mtC 67) := rfl
theorem gw67 : goodWord (mtC 67) = true := rfl
theorem mt68 : mtOK 68 = true := by decide +kernel
set_option maxRecDepth 100000 in
theorem cw68 : lw_tbl[583]? = some (mtC 68) := rfl
theorem gw68 : goodWord (mtC 68) = true := rfl
theorem mt69 : mtOK 69 = true := by decide +kernel
set_option maxRecDepth 100000 in
theorem cw69 : lw_tbl[670]? = some (mtC 69) := rfl
theorem gw69 : goodWord (mtC 69) = true := rfl
theorem mt70 : mtOK 70 = true := by decide +kernel
set_option maxRecDepth 100000 in
theorem cw70 : lw_tbl[579]? = some (mtC 70) := rfl
theorem gw70 : goodWord (mtC 70) = true := rfl
theorem mt71 : mtOK 71 = true := by decide +kernel
set_option maxRecDepth 100000 in
theorem cw71 : lw_tbl[592]? = some (mtC 71) := rfl
theorem gw71 : goodWord (mtC 71) = true := rfl
theorem mt72 : mtOK 72 = true := by decide +kernel
set_option maxRecDepth 100000 in
theorem cw72 : lw_tbl[526]? = some (mtC 72) := rfl
theorem gw72 : goodWord (mtC 72) = true := rfl
theorem mt73 : mtOK 73 = true := by decide +kernel
set_option maxRecDepth 100000 in
theorem cw73 : lw_tbl[588]? = some (mtC 73) := rfl
theorem gw73 : goodWord (mtC 73) = true := rfl
theorem mt74 : mtOK 74 = true := by decide +kernel
set_option maxRecDepth 100000 in
theorem cw74 : lw_tbl[596]? = some (mtC 74) := rfl
theorem gw74 : goodWord (mtC 74) = true := rfl
theorem mt75 : mtOK 75 = true := by decide +kernel
set_option maxRecDepth 100000 in
theorem cw75 : lw_tbl[666]? = some (mtC 75) := rfl
theorem gw75 : goodWord (mtC 75) = true := rfl
theorem mt76 : mtOK 76 = true := by decide +kernel
set_option maxRecDepth 100000 in
theorem cw76 : lw_tbl[522]? = some (mtC 76) := rfl
theorem gw76 : goodWord (mtC 76) = true := rfl
theorem mt77 : mtOK 77 = true := by decide +kernel
set_option maxRecDepth 100000 in
theorem cw77 : lw_tbl[518]? = some (mtC 77) := rfl
theorem gw77 : goodWord (mtC 77) = true := rfl
theorem mt78 : mtOK 78 = true := by decide +kernel
set_option maxRecDepth 100000 in
theorem cw78 : lw_tbl[514]? = some (mtC 78) := rfl
theorem gw78 : goodWord (mtC 78) = true := rfl
theorem mt79 : mtOK 79 = true := by decide +kernel
set_option maxRecDepth 100000 in
theorem cw79 : lw_tbl[618]? = some (mtC 79) := rfl
theorem gw79 : goodWord (mtC 79) = true := rfl
theorem mt80 : mtOK 80 = true := by decide +kernel
set_option maxRecDepth 100000 in
theorem cw80 : lw_tbl[562]? = some (mtC 80) := rfl
theorem gw80 : goodWord (mtC 80) = true := rfl
theorem mt81 : mtOK 81 = true := by decide +kernel
set_option maxRecDepth 100000 in
theorem cw81 : lw_tbl[530]? = some (mtC 81) := rfl
theorem gw81 : goodWord (mtC 81) = true := rfl
theorem mt82 : mtOK 82 = true := by decide +kernel
set_option maxRecDepth 100000 in
theorem cw82 : lw_tbl[684]? = some (mtC 82) := rfl
theorem gw82 : goodWord (mtC 82) = true := rfl
theorem mt83 : mtOK 83 = true := by decide +kernel
set_option maxRecDepth 100000 in
theorem cw83 : lw_tbl[534]? = some (mtC 83) := rfl
theorem gw83 : goodWord (mtC 83) = true := rfl
theorem mt84 : mtOK 84 = true := by decide +kernel
set_option maxRecDepth 100000 in
theorem cw84 : lw_tbl[542]? = some (mtC 84) := rfl
theorem gw84 : goodWord (mtC 84) = true := rfl
theorem mt85 : mtOK 85 = true := by decide +kernel
set_option maxRecDepth 100000 in
theorem cw85 : lw_tbl[538]? = some (mtC 85) := rfl
theorem gw85 : goodWord (mtC 85) = true := rfl
theorem mt86 : mtOK 86 = true := by decide +kernel
set_option maxRecDepth 100000 in
theorem cw86 : lw_tbl[108]? = some (mtC 86) := rfl
theorem gw86 : goodWord (mtC 86) = true := rfl
theorem mt87 : mtOK 87 = true := by decide +kernel
set_option maxRecDepth 100000 in
theorem cw87 : lw_tbl[729]? = some (mtC 87) := rfl
theorem gw87 : goodWord (mtC 87) = true := rfl
theorem mt88 : mtOK 88 = true := by decide +kernel
set_option maxRecDepth 100000 in
theorem cw88 : lw_tbl[725]? = some (mtC 88) := rfl
theorem gw88 : goodWord (mtC 88) = true := rfl
theorem mt89 : mtOK 89 = true := by decide +kernel
set_option maxRecDepth 100000 in
theorem cw89 : lw_tbl[1365]? = some (mtC 89) := rfl
theorem gw89 : goodWord (mtC 89) = true := rfl
theorem mt90 : mtOK 90 = true := by decide +kernel
set_option maxRecDepth 100000 in
theorem cw90 : lw_tbl[764]? = some (mtC 90) := rfl
theorem gw90 : goodWord (mtC 90) = true := rfl
theorem mt91 : mtOK 91 = true := by decide +kernel
set_option maxRecDepth 100000 in
theorem cw91 : lw_tbl[1387]? = some (mtC 91) := rfl
theorem gw91 : goodWord (mtC 91) = true := rfl
theorem mt92 : mtOK 92 = true := by decide +kernel
set_option maxRecDepth 100000 in
theorem cw92 : lw_tbl[1410]? = some (mtC 92) := rfl
theorem gw92 : goodWord (mtC 92) = true := rfl
theorem mt93 : mtOK 93 = true := by decide +kernel
set_option maxRecDepth 100000 in
theorem cw93 : lw_tbl[1345]? = some (mtC 93) := rfl
theorem gw93 : goodWord (mtC 93) = true := rfl
theorem mt94 : mtOK 94 = true := by decide +kernel
set_option maxRecDepth 100000 in
theorem cw94 : lw_tbl[1203]? = some (mtC 94) := rfl
theorem gw94 : goodWord (mtC 94) = true := rfl
theorem mt95 : mtOK 95 = true := by decide +kernel
set_option maxRecDepth 100000 in
theorem cw95 : lw_tbl[1206]? = some (mtC 95) := rfl
theorem gw95 : goodWord (mtC 95) = true := rfl
theorem mt96 : mtOK 96 = true := by decide +kernel
set_option maxRecDepth 100000 in
theorem cw96 : lw_tbl[1209]? = some (mtC 96) := rfl
theorem gw96 : goodWord (mtC 96) = true := rfl
theorem mt97 : mtOK 97 = true := by decide +kernel
set_option maxRecDepth 100000 in
theorem cw97 : lw_tbl[1218]? = some (mtC 97) := rfl
theorem gw97 : goodWord (mtC 97) = true := rfl
theorem mt98 : mtOK 98 = true := by decide +kernel
set_option maxRecDepth 100000 in
theorem cw98 : lw_tbl[1225]? = some (mtC 98) := rfl
theorem gw98 : goodWord (mtC 98) = true := rfl
theorem mt99 : mtOK 99 = true := by decide +kernel
set_option maxRecDepth 100000 in
theorem cw99 : lw_tbl[1231]? = some (mtC 99) := rfl
theorem gw99 : goodWord (mtC 99) = true := rfl
theorem mt100 : mtOK 100 = true := by decide +kernel
set_option maxRecDepth 100000 in
theorem cw100 : lw_tbl[1237]? = some (mtC 100) := rfl
theorem gw100 : goodWord (mtC 100) = true := rfl
theorem mt101 : mtOK 101 = true := by decide +kernel
set_option maxRecDepth 100000 in
theorem cw101 : lw_tbl[1240]? = some (mtC 101) := rfl
theorem gw101 : goodWord (mtC 101) = true := rfl
theorem mt102 : mtOK 102 = true := by decide +kernel
set_option maxRecDepth 100000 in
theorem cw102 : lw_tbl[1212]? = some (mtC 102) := rfl
theorem gw102 : goodWord (mtC 102) = true := rfl
theorem mt103 : mtOK 103 = true := by decide +kernel
set_option maxRecDepth 100000 in
theorem cw103 : lw_tbl[1215]? = some (mtC 103) := rfl
theorem gw103 : goodWord (mtC 103) = true := rfl
theorem mt104 : mtOK 104 = true := by decide +kernel
set_option maxRecDepth 100000 in
theorem cw104 : lw_tbl[94]? = some (mtC 104) := rfl
theorem gw104 : goodWord (mtC 104) = true := rfl
theorem mt105 : mtOK 105 = true := by decide +kernel
set_option maxRecDepth 100000 in
theorem cw105 : lw_tbl[1171]? = some (mtC 105) := rfl
theorem gw105 : goodWord (mtC 105) = true := rfl
theorem mt106 : mtOK 106 = true := by decide +kernel
set_option maxRecDepth 100000 in
theorem cw106 : lw_tbl[1191]? = some (mtC 106) := rfl
theorem gw106 : goodWord (mtC 106) = true := rfl
theorem mt107 : mtOK 107 = true := by decide +kernel
set_option maxRecDepth 100000 in
theorem cw107 : lw_tbl[1120]? = some (mtC 107) := rfl
theorem gw107 : goodWord (mtC 107) = true := rfl
theorem mt108 : mtOK 108 = true := by decide +kernel
set_option maxRecDepth 100000 in
theorem cw108 : lw_tbl[1195]? = some (mtC 108) := rfl
theorem gw108 : goodWord (mtC 108) = true := rfl
theorem mt109 : mtOK 109 = true := by decide +kernel
set_option maxRecDepth 100000 in
theorem cw109 : lw_tbl[1447]? = some (mtC 109) := rfl
theorem gw109 : goodWord (mtC 109) = true := rfl
theorem mt110 : mtOK 110 = true := by decide +kernel
set_option maxRecDepth 100000 in
theorem cw110 : lw_tbl[423]? = some (mtC 110) := rfl
theorem gw110 : goodWord (mtC 110) = true := rfl
theorem mt111 : mtOK 111 = true := by decide +kernel
set_option maxRecDepth 100000 in
theorem cw111 : lw_tbl[494]? = some (mtC 111) := rfl
theorem gw111 : goodWord (mtC 111) = true := rfl
theorem mt112 : mtOK 112 = true := by decide +kernel
set_option maxRecDepth 100000 in
theorem cw112 : lw_tbl[566]? = some (mtC 112) := rfl
theorem gw112 : goodWord (mtC 112) = true := rfl
theorem mt113 : mtOK 113 = true := by decide +kernel
set_option maxRecDepth 100000 in
theorem cw113 : lw_tbl[575]? = some (mtC 113) := rfl
theorem gw113 : goodWord (mtC 113) = true := rfl
theorem mt114 : mtOK 114 = true := by decide +kernel
set_option maxRecDepth 100000 in
theorem cw114 : lw_tbl[603]? = some (mtC 114) := rfl
theorem gw114 : goodWord (mtC 114) = true := rfl
theorem mt115 : mtOK 115 = true := by decide +kernel
set_option maxRecDepth 100000 in
theorem cw115 : lw_tbl[612]? = some (mtC 115) := rfl
theorem gw115 : goodWord (mtC 115) = true := rfl
theorem mt116 : mtOK 116 = true := by decide +kernel
set_option maxRecDepth 100000 in
theorem cw116 : lw_tbl[626]? = some (mtC 116) := rfl
theorem gw116 : goodWord (mtC 116) = true := rfl
theorem mt117 : mtOK 117 = true := by decide +kernel
set_option maxRecDepth 100000 in
theorem cw117 : lw_tbl[635]? = some (mtC 117) := rfl
theorem gw117 : goodWord (mtC 117) = true := rfl
theorem mt118 : mtOK 118 = true := by decide +kernel
set_option maxRecDepth 100000 in
theorem cw118 : lw_tbl[647]? = some (mtC 118) := rfl
theorem gw118 : goodWord (mtC 118) = true := rfl
theorem mt119 : mtOK 119 = true := by decide +kernel
set_option maxRecDepth 100000 in
theorem cw119 : lw_tbl[570]? = some (mtC 119) := rfl
theorem gw119 : goodWord (mtC 119) = true := rfl
theorem mt120 : mtOK 120 = true := by decide +kernel
set_option maxRecDepth 100000 in
theorem cw120 : lw_tbl[607]? = some (mtC 120) := rfl
theorem gw120 : goodWord (mtC 120) = true := rfl
theorem mt121 : mtOK 121 = true := by decide +kernel
set_option maxRecDepth 100000 in
theorem cw121 : lw_tbl[630]? = some (mtC 121) := rfl
theorem gw121 : goodWord (mtC 121) = true := rfl
theorem mt122 : mtOK 122 = true := by decide +kernel
set_option maxRecDepth 100000 in
theorem cw122 : lw_tbl[656]? = some (mtC 122) := rfl
theorem gw122 : goodWord (mtC 122) = true := rfl
theorem mt123 : mtOK 123 = true := by decide +kernel
set_option maxRecDepth 100000 in
theorem cw123 : lw_tbl[662]? = some (mtC 123) := rfl
theorem gw123 : goodWord (mtC 123) = true := rfl
theorem mt124 : mtOK 124 = true := by decide +kernel
set_option maxRecDepth 100000 in
theorem cw124 : lw_tbl[674]? = some (mtC 124) := rfl
theorem gw124 : goodWord (mtC 124) = true := rfl
theorem mt125 : mtOK 125 = true := by decide +kernel
set_option maxRecDepth 100000 in
theorem cw125 : lw_tbl[680]? = some (mtC 125) := rfl
theorem gw125 : goodWord (mtC 125) = true := rfl
theorem mt126 : mtOK 126 = true := by decide +kernel
set_option maxRecDepth 100000 in
theorem cw126 : lw_tbl[1782]? = some (mtC 126) := rfl
theorem gw126 : goodWord (mtC 126) = true := rfl
theorem mt127 : mtOK 127 = true := by decide +kernel
set_option maxRecDepth 100000 in
theorem cw127 : lw_tbl[1788]? = some (mtC 127) := rfl
theorem gw127 : goodWord (mtC 127) = true := rfl
theorem mt128 : mtOK 128 = true := by decide +kernel
set_option maxRecDepth 100000 in
theorem cw128 : lw_tbl[1794]? = some (mtC 128) := rfl
theorem gw128 : goodWord (mtC 128) = true := rfl
theorem mt129 : mtOK 129 = true := by decide +kernel
set_option maxRecDepth 100000 in
theorem cw129 : lw_tbl[1801]? = some (mtC 129) := rfl
theorem gw129 : goodWord (mtC 129) = true := rfl
theorem mt130 : mtOK 130 = true := by decide +kernel
set_option maxRecDepth 100000 in
theorem cw130 : lw_tbl[689]? = some (mtC 130) := rfl
theorem gw130 : goodWord (mtC 130) = true := rfl
theorem mt131 : mtOK 131 = true := by decide +kernel
set_option maxRecDepth 100000 in
theorem cw131 : lw_tbl[905]? = some (mtC 131) := rfl
theorem gw131 : goodWord (mtC 131) = true := rfl
theorem mt132 : mtOK 132 = true := by decide +kernel
set_option maxRecDepth 100000 in
theorem cw132 : lw_tbl[846]? = some (mtC 132) := rfl
theorem gw132 : goodWord (mtC 132) = true := rfl
theorem mt133 : mtOK 133 = true := by decide +kernel
set_option maxRecDepth 100000 in
theorem cw133 : lw_tbl[918]? = some (mtC 133) := rfl
theorem gw133 : goodWord (mtC 133) = true := rfl
theorem mt134 : mtOK 134 = true := by decide +kernel
set_option maxRecDepth 100000 in
theorem cw134 : lw_tbl[913]? = some (mtC 134) := rfl
theorem gw134 : goodWord (mtC 134) = true := rfl
theorem mt135 : mtOK 135 = true := by decide +kernel
set_option maxRecDepth 100000 in
theorem cw135 : lw_tbl[862]? = some (mtC 135) := rfl
theorem gw135 : goodWord (mtC 135) = true := rfl
theorem mt136 : mtOK 136 = true := by decide +kernel
set_option maxRecDepth 100000 in
theorem cw136 : lw_tbl[1100]? = some (mtC 136) := rfl
theorem gw136 : goodWord (mtC 136) = true := rfl
theorem mt137 : mtOK 137 = true := by decide +kernel
set_option maxRecDepth 100000 in
theorem cw137 : lw_tbl[870]? = some (mtC 137) := rfl
theorem gw137 : goodWord (mtC 137) = true := rfl
theorem mt138 : mtOK 138 = true := by decide +kernel
set_option maxRecDepth 100000 in
theorem cw138 : lw_tbl[876]? = some (mtC 138) := rfl
theorem gw138 : goodWord (mtC 138) = true := rfl
theorem mt139 : mtOK 139 = true := by decide +kernel
set_option maxRecDepth 100000 in
theorem cw139 : lw_tbl[880]? = some (mtC 139) := rfl
theorem gw139 : goodWord (mtC 139) = true := rfl
theorem mt140 : mtOK 140 = true := by decide +kernel
set_option maxRecDepth 100000 in
theorem cw140 : lw_tbl[909]? = some (mtC 140) := rfl
theorem gw140 : goodWord (mtC 140) = true := rfl
theorem mt141 : mtOK 141 = true := by decide +kernel
set_option maxRecDepth 100000 in
theorem cw141 : lw_tbl[1037]? = some (mtC 141) := rfl
theorem gw141 : goodWord (mtC 141) = true := rfl
theorem mt142 : mtOK 142 = true := by decide +kernel
set_option maxRecDepth 100000 in
theorem cw142 : lw_tbl[1041]? = some (mtC 142) := rfl
theorem gw142 : goodWord (mtC 142) = true := rfl
theorem mt143 : mtOK 143 = true := by decide +kernel
set_option maxRecDepth 100000 in
theorem cw143 : lw_tbl[1045]? = some (mtC 143) := rfl
theorem gw143 : goodWord (mtC 143) = true := rfl
theorem mt144 : mtOK 144 = true := by decide +kernel
set_option maxRecDepth 100000 in
theorem cw144 : lw_tbl[1033]? = some (mtC 144) := rfl
theorem gw144 : goodWord (mtC 144) = true := rfl
theorem mt145 : mtOK 145 = true := by decide +kernel
set_option maxRecDepth 100000 in
theorem cw145 : lw_tbl[1029]? = some (mtC 145) := rfl
theorem gw145 : goodWord (mtC 145) = true := rfl
theorem mt146 : mtOK 146 = true := by decide +kernel
set_option maxRecDepth 100000 in
theorem cw146 : lw_tbl[892]? = some (mtC 146) := rfl
theorem gw146 : goodWord (mtC 146) = true := rfl
theorem mt147 : mtOK 147 = true := by decide +kernel
set_option maxRecDepth 100000 in
theorem cw147 : lw_tbl[888]? = some (mtC 147) := rfl
theorem gw147 : goodWord (mtC 147) = true := rfl
theorem mt148 : mtOK 148 = true := by decide +kernel
set_option maxRecDepth 100000 in
theorem cw148 : lw_tbl[924]? = some (mtC 148) := rfl
theorem gw148 : goodWord (mtC 148) = true := rfl
theorem mt149 : mtOK 149 = true := by decide +kernel
set_option maxRecDepth 100000 in
theorem cw149 : lw_tbl[901]? = some (mtC 149) := rfl
theorem gw149 : goodWord (mtC 149) = true := rfl
theorem mt150 : mtOK 150 = true := by decide +kernel
set_option maxRecDepth 100000 in
theorem cw150 : lw_tbl[897]? = some (mtC 150) := rfl
theorem gw150 : goodWord (mtC 150) = true := rfl
theorem mt151 : mtOK 151 = true := by decide +kernel
set_option maxRecDepth 100000 in
theorem cw151 : lw_tbl[957]? = some (mtC 151) := rfl
theorem gw151 : goodWord (mtC 151) = true := rfl
theorem mt152 : mtOK 152 = true := by decide +kernel
set_option maxRecDepth 100000 in
theorem cw152 : lw_tbl[884]? = some (mtC 152) := rfl
theorem gw152 : goodWord (mtC 152) = true := rfl
theorem mt153 : mtOK 153 = true := by decide +kernel
set_option maxRecDepth 100000 in
theorem cw153 : lw_tbl[1025]? = some (mtC 153) := rfl
theorem gw153 : goodWord (mtC 153) = true := rfl
theorem mt154 : mtOK 154 = true := by decide +kernel
set_option maxRecDepth 100000 in
theorem cw154 : lw_tbl[1021]? = some (mtC 154) := rfl
theorem gw154 : goodWord (mtC 154) = true := rfl
theorem mt155 : mtOK 155 = true := by decide +kernel
set_option maxRecDepth 100000 in
theorem cw155 : lw_tbl[1108]? = some (mtC 155) := rfl
theorem gw155 : goodWord (mtC 155) = true := rfl
theorem mt156 : mtOK 156 = true := by decide +kernel
set_option maxRecDepth 100000 in
theorem cw156 : lw_tbl[1112]? = some (mtC 156) := rfl
theorem gw156 : goodWord (mtC 156) = true := rfl
theorem mt157 : mtOK 157 = true := by decide +kernel
set_option maxRecDepth 100000 in
theorem cw157 : lw_tbl[1116]? = some (mtC 157) := rfl
theorem gw157 : goodWord (mtC 157) = true := rfl
theorem mt158 : mtOK 158 = true := by decide +kernel
set_option maxRecDepth 100000 in
theorem cw158 : lw_tbl[1677]? = some (mtC 158) := rfl
theorem gw158 : goodWord (mtC 158) = true := rfl
theorem mt159 : mtOK 159 = true := by decide +kernel
set_option maxRecDepth 100000 in
theorem cw159 : lw_tbl[1753]? = some (mtC 159) := rfl
theorem gw159 : goodWord (mtC 159) = true := rfl
theorem mt160 : mtOK 160 = true := by decide +kernel
set_option maxRecDepth 100000 in
theorem cw160 : lw_tbl[1443]? = some (mtC 160) := rfl
theorem gw160 : goodWord (mtC 160) = true := rfl
theorem mt161 : mtOK 161 = true := by decide +kernel
set_option maxRecDepth 100000 in
theorem cw161 : lw_tbl[1776]? = some (mtC 161) := rfl
theorem gw161 : goodWord (mtC 161) = true := rfl
theorem mt162 : mtOK 162 = true := by decide +kernel
set_option maxRecDepth 100000 in
theorem cw162 : lw_tbl[1805]? = some (mtC 162) := rfl
theorem gw162 : goodWord (mtC 162) = true := rfl
theorem mt163 : mtOK 163 = true := by decide +kernel
set_option maxRecDepth 100000 in
theorem cw163 : lw_tbl[1611]? = some (mtC 163) := rfl
theorem gw163 : goodWord (mtC 163) = true := rfl
theorem mt164 : mtOK 164 = true := by decide +kernel
set_option maxRecDepth 100000 in
theorem cw164 : lw_tbl[1687]? = some (mtC 164) := rfl
theorem gw164 : goodWord (mtC 164) = true := rfl
theorem mt165 : mtOK 165 = true := by decide +kernel
set_option maxRecDepth 100000 in
theorem cw165 : lw_tbl[1690]? = some (mtC 165) := rfl
theorem gw165 : goodWord (mtC 165) = true := rfl
theorem mt166 : mtOK 166 = true := by decide +kernel
set_option maxRecDepth 100000 in
theorem cw166 : lw_tbl[935]? = some (mtC 166) := rfl
theorem gw166 : goodWord (mtC 166) = true := rfl
theorem mt167 : mtOK 167 = true := by decide +kernel
set_option maxRecDepth 100000 in
theorem cw167 : lw_tbl[1522]? = some (mtC 167) := rfl
theorem gw167 : goodWord (mtC 167) = true := rfl
theorem mt168 : mtOK 168 = true := by decide +kernel
set_option maxRecDepth 100000 in
theorem cw168 : lw_tbl[1617]? = some (mtC 168) := rfl
theorem gw168 : goodWord (mtC 168) = true := rfl
theorem mt169 : mtOK 169 = true := by decide +kernel
set_option maxRecDepth 100000 in
theorem cw169 : lw_tbl[1656]? = some (mtC 169) := rfl
theorem gw169 : goodWord (mtC 169) = true := rfl
theorem mt170 : mtOK 170 = true := by decide +kernel
set_option maxRecDepth 100000 in
theorem cw170 : lw_tbl[1682]? = some (mtC 170) := rfl
theorem gw170 : goodWord (mtC 170) = true := rfl
theorem mt171 : mtOK 171 = true := by decide +kernel
set_option maxRecDepth 100000 in
theorem cw171 : lw_tbl[1620]? = some (mtC 171) := rfl
theorem gw171 : goodWord (mtC 171) = true := rfl
theorem mt172 : mtOK 172 = true := by decide +kernel
set_option maxRecDepth 100000 in
theorem cw172 : lw_tbl[1526]? = some (mtC 172) := rfl
theorem gw172 : goodWord (mtC 172) = true := rfl
theorem mt173 : mtOK 173 = true := by decide +kernel
set_option maxRecDepth 100000 in
theorem cw173 : lw_tbl[1534]? = some (mtC 173) := rfl
theorem gw173 : goodWord (mtC 173) = true := rfl
theorem mt174 : mtOK 174 = true := by decide +kernel
set_option maxRecDepth 100000 in
theorem cw174 : lw_tbl[1696]? = some (mtC 174) := rfl
theorem gw174 : goodWord (mtC 174) = true := rfl
theorem mt175 : mtOK 175 = true := by decide +kernel
set_option maxRecDepth 100000 in
theorem cw175 : lw_tbl[1580]? = some (mtC 175) := rfl
theorem gw175 : goodWord (mtC 175) = true := rfl
theorem mt176 : mtOK 176 = true := by decide +kernel
set_option maxRecDepth 100000 in
theorem cw176 : lw_tbl[1659]? = some (mtC 176) := rfl
theorem gw176 : goodWord (mtC 176) = true := rfl
theorem mt177 : mtOK 177 = true := by decide +kernel
set_option maxRecDepth 100000 in
theorem cw177 : lw_tbl[1555]? = some (mtC 177) := rfl
theorem gw177 : goodWord (mtC 177) = true := rfl
theorem mt178 : mtOK 178 = true := by decide +kernel
set_option maxRecDepth 100000 in
theorem cw178 : lw_tbl[1704]? = some (mtC 178) := rfl
theorem gw178 : goodWord (mtC 178) = true := rfl
theorem mt179 : mtOK 179 = true := by decide +kernel
set_option maxRecDepth 100000 in
theorem cw179 : lw_tbl[1538]? = some (mtC 179) := rfl
theorem gw179 : goodWord (mtC 179) = true := rfl
theorem mt180 : mtOK 180 = true := by decide +kernel
set_option maxRecDepth 100000 in
theorem cw180 : lw_tbl[1576]? = some (mtC 180) := rfl
theorem gw180 : goodWord (mtC 180) = true := rfl
theorem mt181 : mtOK 181 = true := by decide +kernel
set_option maxRecDepth 100000 in
theorem cw181 : lw_tbl[1626]? = some (mtC 181) := rfl
theorem gw181 : goodWord (mtC 181) = true := rfl
theorem mt182 : mtOK 182 = true := by decide +kernel
set_option maxRecDepth 100000 in
theorem cw182 : lw_tbl[1623]? = some (mtC 182) := rfl
theorem gw182 : goodWord (mtC 182) = true := rfl
theorem mt183 : mtOK 183 = true := by decide +kernel
set_option maxRecDepth 100000 in
theorem cw183 : lw_tbl[1714]? = some (mtC 183) := rfl
theorem gw183 : goodWord (mtC 183) = true := rfl
theorem mt184 : mtOK 184 = true := by decide +kernel
set_option maxRecDepth 100000 in
theorem cw184 : lw_tbl[1711]? = some (mtC 184) := rfl
theorem gw184 : goodWord (mtC 184) = true := rfl
theorem mt185 : mtOK 185 = true := by decide +kernel
set_option maxRecDepth 100000 in
theorem cw185 : lw_tbl[1708]? = some (mtC 185) := rfl
theorem gw185 : goodWord (mtC 185) = true := rfl
theorem mt186 : mtOK 186 = true := by decide +kernel
set_option maxRecDepth 100000 in
theorem cw186 : lw_tbl[986]? = some (mtC 186) := rfl
theorem gw186 : goodWord (mtC 186) = true := rfl
theorem mt187 : mtOK 187 = true := by decide +kernel
set_option maxRecDepth 100000 in
theorem cw187 : lw_tbl[1010]? = some (mtC 187) := rfl
theorem gw187 : goodWord (mtC 187) = true := rfl
theorem mt188 : mtOK 188 = true := by decide +kernel
set_option maxRecDepth 100000 in
theorem cw188 : lw_tbl[1543]? = some (mtC 188) := rfl
theorem gw188 : goodWord (mtC 188) = true := rfl
theorem mt189 : mtOK 189 = true := by decide +kernel
set_option maxRecDepth 100000 in
theorem cw189 : lw_tbl[978]? = some (mtC 189) := rfl
theorem gw189 : goodWord (mtC 189) = true := rfl
theorem mt190 : mtOK 190 = true := by decide +kernel
set_option maxRecDepth 100000 in
theorem cw190 : lw_tbl[1094]? = some (mtC 190) := rfl
theorem gw190 : goodWord (mtC 190) = true := rfl
theorem mt191 : mtOK 191 = true := by decide +kernel
set_option maxRecDepth 100000 in
theorem cw191 : lw_tbl[1081]? = some (mtC 191) := rfl
theorem gw191 : goodWord (mtC 191) = true := rfl
theorem mt192 : mtOK 192 = true := by decide +kernel
set_option maxRecDepth 100000 in
theorem cw192 : lw_tbl[1057]? = some (mtC 192) := rfl
theorem gw192 : goodWord (mtC 192) = true := rfl
theorem mt193 : mtOK 193 = true := by decide +kernel
set_option maxRecDepth 100000 in
theorem cw193 : lw_tbl[1090]? = some (mtC 193) := rfl
theorem gw193 : goodWord (mtC 193) = true := rfl
theorem mt194 : mtOK 194 = true := by decide +kernel
set_option maxRecDepth 100000 in
theorem cw194 : lw_tbl[965]? = some (mtC 194) := rfl
theorem gw194 : goodWord (mtC 194) = true := rfl
theorem mt195 : mtOK 195 = true := by decide +kernel
set_option maxRecDepth 100000 in
theorem cw195 : lw_tbl[961]? = some (mtC 195) := rfl
theorem gw195 : goodWord (mtC 195) = true := rfl
theorem mt196 : mtOK 196 = true := by decide +kernel
set_option maxRecDepth 100000 in
theorem cw196 : lw_tbl[942]? = some (mtC 196) := rfl
theorem gw196 : goodWord (mtC 196) = true := rfl
theorem mt197 : mtOK 197 = true := by decide +kernel
set_option maxRecDepth 100000 in
theorem cw197 : lw_tbl[952]? = some (mtC 197) := rfl
theorem gw197 : goodWord (mtC 197) = true := rfl
theorem mt198 : mtOK 198 = true := by decide +kernel
set_option maxRecDepth 100000 in
theorem cw198 : lw_tbl[932]? = some (mtC 198) := rfl
theorem gw198 : goodWord (mtC 198) = true := rfl
theorem mt199 : mtOK 199 = true := by decide +kernel
set_option maxRecDepth 100000 in
theorem cw199 : lw_tbl[973]? = some (mtC 199) := rfl
theorem gw199 : goodWord (mtC 199) = true := rfl
theorem mt200 : mtOK 200 = true := by decide +kernel
set_option maxRecDepth 100000 in
theorem cw200 : lw_tbl[969]? = some (mtC 200) := rfl
theorem gw200 : goodWord (mtC 200) = true := rfl
theorem mt201 : mtOK 201 = true := by decide +kernel
set_option maxRecDepth 100000 in
theorem cw201 : lw_tbl[1454]? = some (mtC 201) := rfl
theorem gw201 : goodWord (mtC 201) = true := rfl
theorem mt202 : mtOK 202 = true := by decide +kernel
set_option maxRecDepth 100000 in
theorem cw202 : lw_tbl[1052]? = some (mtC 202) := rfl
theorem gw202 : goodWord (mtC 202) = true := rfl
theorem mt203 : mtOK 203 = true := by decide +kernel
set_option maxRecDepth 100000 in
theorem cw203 : lw_tbl[947]? = some (mtC 203) := rfl
theorem gw203 : goodWord (mtC 203) = true := rfl
theorem mt204 : mtOK 204 = true := by decide +kernel
set_option maxRecDepth 100000 in
theorem cw204 : lw_tbl[928]? = some (mtC 204) := rfl
theorem gw204 : goodWord (mtC 204) = true := rfl
theorem mt205 : mtOK 205 = true := by decide +kernel
set_option maxRecDepth 100000 in
theorem cw205 : lw_tbl[1460]? = some (mtC 205) := rfl
theorem gw205 : goodWord (mtC 205) = true := rfl
theorem mt206 : mtOK 206 = true := by decide +kernel
set_option maxRecDepth 100000 in
theorem cw206 : lw_tbl[1457]? = some (mtC 206) := rfl
theorem gw206 : goodWord (mtC 206) = true := rfl
theorem mt207 : mtOK 207 = true := by decide +kernel
set_option maxRecDepth 100000 in
theorem cw207 : lw_tbl[1702]? = some (mtC 207) := rfl
theorem gw207 : goodWord (mtC 207) = true := rfl
theorem mt208 : mtOK 208 = true := by decide +kernel
set_option maxRecDepth 100000 in
theorem cw208 : lw_tbl[1129]? = some (mtC 208) := rfl
theorem gw208 : goodWord (mtC 208) = true := rfl
theorem mt209 : mtOK 209 = true := by decide +kernel
set_option maxRecDepth 100000 in
theorem cw209 : lw_tbl[1129]? = some (mtC 209) := rfl
theorem gw209 : goodWord (mtC 209) = true := rfl
theorem mt210 : mtOK 210 = true := by decide +kernel
set_option maxRecDepth 100000 in
theorem cw210 : lw_tbl[1129]? = some (mtC 210) := rfl
theorem gw210 : goodWord (mtC 210) = true := rfl
theorem mt211 : mtOK 211 = true := by decide +kernel
set_option maxRecDepth 100000 in
theorem cw211 : lw_tbl[1129]? = some (mtC 211) := rfl
theorem gw211 : goodWord (mtC 211) = true := rfl
theorem mt212 : mtOK 212 = true := by decide +kernel
set_option maxRecDepth 100000 in
theorem cw212 : lw_tbl[1129]? = some (mtC 212) := rfl
theorem gw212 : goodWord (mtC 212) = true := rfl
theorem mt213 : mtOK 213 = true := by decide +kernel
set_option maxRecDepth 100000 in
theorem cw213 : lw_tbl[1129]? = some (mtC 213) := rfl
theorem gw213 : goodWord (mtC 213) = true := rfl
theorem mt214 : mtOK 214 = true := by decide +kernel
set_option maxRecDepth 100000 in
theorem cw214 : lw_tbl[1129]? = some (mtC 214) := rfl
theorem gw214 : goodWord (mtC 214) = true := rfl
theorem mt215 : mtOK 215 = true := by decide +kernel
set_option maxRecDepth 100000 in
theorem cw215 : lw_tbl[1129]? = some (mtC 215) := rfl
theorem gw215 : goodWord (mtC 215) = true := rfl
theorem mt216 : mtOK 216 = true := by decide +kernel
set_option maxRecDepth 100000 in
theorem cw216 : lw_tbl[1129]? = some (mtC 216) := rfl
theorem gw216 : goodWord (mtC 216) = true := rfl
theorem mt217 : mtOK 217 = true := by decide +kernel
set_option maxRecDepth 100000 in
theorem cw217 : lw_tbl[1129]? = some (mtC 217) := rfl
theorem gw217 : goodWord (mtC 217) = true := rfl
theorem mt218 : mtOK 218 = true := by decide +kernel
set_option maxRecDepth 100000 in
theorem cw218 : lw_tbl[1129]? = some (mtC 218) := rfl
theorem gw218 : goodWord (mtC 218) = true := rfl
theorem mt219 : mtOK 219 = true := by decide +kernel
set_option maxRecDepth 100000 in
theorem cw219 : lw_tbl[1129]? = some (mtC 219) := rfl
theorem gw219 : goodWord (mtC 219) = true := rfl
theorem mt220 : mtOK 220 = true := by decide +kernel
set_option maxRecDepth 100000 in
theorem cw220 : lw_tbl[1129]? = some (mtC 220) := rfl
theorem gw220 : goodWord (mtC 220) = true := rfl
theorem mt221 : mtOK 221 = true := by decide +kernel
set_option maxRecDepth 100000 in
theorem cw221 : lw_tbl[1129]? = some (mtC 221) := rfl
theorem gw221 : goodWord (mtC 221) = true := rfl
theorem mt222 : mtOK 222 = true := by decide +kernel
set_option maxRecDepth 100000 in
theorem cw222 : lw_tbl[1129]? = some (mtC 222) := rfl
theorem gw222 : goodWord (mtC 222) = true := rfl
theorem mt223 : mtOK 223 = true := by decide +kernel
set_option maxRecDepth 100000 in
theorem cw223 : lw_tbl[1129]? = some (mtC 223) := rfl
theorem gw223 : goodWord (mtC 223) = true := rfl
theorem mt224 : mtOK 224 = true := by decide +kernel
set_option maxRecDepth 100000 in
theorem cw224 : lw_tbl[1129]? = some (mtC 224) := rfl
theorem gw224 : goodWord (mtC 224) = true := rfl
theorem mt225 : mtOK 225 = true := by decide +kernel
set_option maxRecDepth 100000 in
theorem cw225 : lw_tbl[1129]? = some (mtC 225) := rfl
theorem gw225 : goodWord (mtC 225) = true := rfl
theorem mt226 : mtOK 226 = true := by decide +kernel
set_option maxRecDepth 100000 in
theorem cw226 : lw_tbl[1129]? = some (mtC 226) := rfl
theorem gw226 : goodWord (mtC 226) = true := rfl
theorem mt227 : mtOK 227 = true := by decide +kernel
set_option maxRecDepth 100000 in
theorem cw227 : lw_tbl[1129]? = some (mtC 227) := rfl
theorem gw227 : goodWord (mtC 227) = true := rfl
theorem mt228 : mtOK 228 = true := by decide +kernel
set_option maxRecDepth 100000 in
theorem cw228 : lw_tbl[1129]? = some (mtC 228) := rfl
theorem gw228 : goodWord (mtC 228) = true := rfl
theorem mt229 : mtOK 229 = true := by decide +kernel
set_option maxRecDepth 100000 in
theorem cw229 : lw_tbl[1129]? = some (mtC 229) := rfl
theorem gw229 : goodWord (mtC 229) = true := rfl
theorem mt230 : mtOK 230 = true := by decide +kernel
set_option maxRecDepth 100000 in
theorem cw230 : lw_tbl[1129]? = some (mtC 230) := rfl
theorem gw230 : goodWord (mtC 230) = true := rfl
theorem mt231 : mtOK 231 = true := by decide +kernel
set_option maxRecDepth 100000 in
theorem cw231 : lw_tbl[1129]? = some (mtC 231) := rfl
theorem gw231 : goodWord (mtC 231) = true := rfl
theorem mt232 : mtOK 232 = true := by decide +kernel
set_option maxRecDepth 100000 in
theorem cw232 : lw_tbl[1129]? = some (mtC 232) := rfl
theorem gw232 : goodWord (mtC 232) = true := rfl
theorem mt233 : mtOK 233 = true := by decide +kernel
set_option maxRecDepth 100000 in
theorem cw233 : lw_tbl[1129]? = some (mtC 233) := rfl
theorem gw233 : goodWord (mtC 233) = true := rfl
theorem mt234 : mtOK 234 = true := by decide +kernel
set_option maxRecDepth 100000 in
theorem cw234 : lw_tbl[1129]? = some (mtC 234) := rfl
theorem gw234 : goodWord (mtC 234) = true := rfl
theorem mt235 : mtOK 235 = true := by decide +kernel
set_option maxRecDepth 100000 in
theorem cw235 : lw_tbl[1129]? = some (mtC 235) := rfl
theorem gw235 : goodWord (mtC 235) = true := rfl
theorem mt236 : mtOK 236 = true := by decide +kernel
set_option maxRecDepth 100000 in
theorem cw236 : lw_tbl[1129]? = some (mtC 236) := rfl
theorem gw236 : goodWord (mtC 236) = true := rfl
theorem mt237 : mtOK 237 = true := by decide +kernel
set_option maxRecDepth 100000 in
theorem cw237 : lw_tbl[1129]? = some (mtC 237) := rfl
theorem gw237 : goodWord (mtC 237) = true := rfl
theorem mt238 : mtOK 238 = true := by decide +kernel
set_option maxRecDepth 100000 in
theorem cw238 : lw_tbl[1129]? = some (mtC 238) := rfl
theorem gw238 : goodWord (mtC 238) = true := rfl
theorem mt239 : mtOK 239 = true := by decide +kernel
set_option maxRecDepth 100000 in
theorem cw239 : lw_tbl[1129]? = some (mtC 239) := rfl
theorem gw239 : goodWord (mtC 239) = true := rfl
theorem mt240 : mtOK 240 = true := by decide +kernel
set_option maxRecDepth 100000 in
theorem cw240 : lw_tbl[1129]? = some (mtC 240) := rfl
theorem gw240 : goodWord (mtC 240) = true := rfl
theorem mt241 : mtOK 241 = true := by decide +kernel
set_option maxRecDepth 100000 in
theorem cw241 : lw_tbl[1129]? = some (mtC 241) := rfl
theorem gw241 : goodWord (mtC 241) = true := rfl
theorem mt242 : mtOK 242 = true := by decide +kernel
set_option maxRecDepth 100000 in
theorem cw242 : lw_tbl[1129]? = some (mtC 242) := rfl
theorem gw242 : goodWord (mtC 242) = true := rfl
theorem mt243 : mtOK 243 = true := by decide +kernel
set_option maxRecDepth 100000 in
theorem cw243 : lw_tbl[1129]? = some (mtC 243) := rfl
theorem gw243 : goodWord (mtC 243) = true := rfl
theorem mt244 : mtOK 244 = true := by decide +kernel
set_option maxRecDepth 100000 in
theorem cw244 : lw_tbl[1129]? = some (mtC 244) := rfl
theorem gw244 : goodWord (mtC 244) = true := rfl
theorem mt245 : mtOK 245 = true := by decide +kernel
set_option maxRecDepth 100000 in
theorem cw245 : lw_tbl[1129]? = some (mtC 245) := rfl
theorem gw245 : goodWord (mtC 245) = true := rfl
theorem mt246 : mtOK 246 = true := by decide +kernel
set_option maxRecDepth 100000 in
theorem cw246 : lw_tbl[1129]? = some (mtC 246) := rfl
theorem gw246 : goodWord (mtC 246) = true := rfl
theorem mt247 : mtOK 247 = true := by decide +kernel
set_option maxRecDepth 100000 in
theorem cw247 : lw_tbl[1129]? = some (mtC 247) := rfl
theorem gw247 : goodWord (mtC 247) = true := rfl
theorem mt248 : mtOK 248 = true := by decide +kernel
set_option maxRecDepth 100000 in
theorem cw248 : lw_tbl[1129]? = some (mtC 248) := rfl
theorem gw248 : goodWord (mtC 248) = true := rfl
theorem mt249 : mtOK 249 = true := by decide +kernel
set_option maxRecDepth 100000 in
theorem cw249 : lw_tbl[1129]? = some (mtC 249) := rfl
theorem gw249 : goodWord (mtC 249) = true := rfl
theorem mt250 : mtOK 250 = true := by decide +kernel
set_option maxRecDepth 100000 in
theorem cw250 : lw_tbl[1129]? = some (mtC 250) := rfl
theorem gw250 : goodWord (mtC 250) = true := rfl
theorem mt251 : mtOK 251 = true := by decide +kernel
set_option maxRecDepth 100000 in
theorem cw251 : lw_tbl[1129]? = some (mtC 251) := rfl
theorem gw251 : goodWord (mtC 251) = true := rfl
theorem mt252 : mtOK 252 = true := by decide +kernel
set_option maxRecDepth 100000 in
theorem cw252 : lw_tbl[1129]? = some (mtC 252) := rfl
theorem gw252 : goodWord (mtC 252) = true := rfl
theorem mt253 : mtOK 253 = true := by decide +kernel
set_option maxRecDepth 100000 in
theorem cw253 : lw_tbl[1129]? = some (mtC 253) := rfl
theorem gw253 : goodWord (mtC 253) = true := rfl
theorem mt254 : mtOK 254 = true := by decide +kernel
set_option maxRecDepth 100000 in
theorem cw254 : lw_tbl[1129]? = some (mtC 254) := rfl
theorem gw254 : goodWord (mtC 254) = true := rfl
theorem mt255 : mtOK 255 = true := by decide +kernel
set_option maxRecDepth 100000 in
theorem cw255 : lw_tbl[1129]? = some (mtC 255) := rfl
theorem gw255 : goodWord (mtC 255) = true := rfl
theorem mt256 : mtOK 256 = true := by decide +kernel
set_option maxRecDepth 100000 in
theorem cw256 : lw_tbl[1129]? = some (mtC 256) := rfl
theorem gw256 : goodWord (mtC 256) = true := rfl
theorem mt257 : mtOK 257 = true := by decide +kernel
set_option maxRecDepth 100000 in
theorem cw257 : lw_tbl[1129]? = some (mtC 257) := rfl
theorem gw257 : goodWord (mtC 257) = true := rfl
theorem mt258 : mtOK 258 = true := by decide +kernel
set_option maxRecDepth 100000 in
theorem cw258 : lw_tbl[1129]? = some (mtC 258) := rfl
theorem gw258 : goodWord (mtC 258) = true := rfl
theorem mt259 : mtOK 259 = true := by decide +kernel
set_option maxRecDepth 100000 in
theorem cw259 : lw_tbl[1129]? = some (mtC 259) := rfl
theorem gw259 : goodWord (mtC 259) = true := rfl
theorem mt260 : mtOK 260 = true := by decide +kernel
set_option maxRecDepth 100000 in
theorem cw260 : lw_tbl[1129]? = some (mtC 260) := rfl
theorem gw260 : goodWord (mtC 260) = true := rfl
theorem mt261 : mtOK 261 = true := by decide +kernel
set_option maxRecDepth 100000 in
theorem cw261 : lw_tbl[1129]? = some (mtC 261) := rfl
theorem gw261 : goodWord (mtC 261) = true := rfl
theorem mt262 : mtOK 262 = true := by decide +kernel
set_option maxRecDepth 100000 in
theorem cw262 : lw_tbl[1129]? = some (mtC 262) := rfl
theorem gw262 : goodWord (mtC 262) = true := rfl
theorem mt263 : mtOK 263 = true := by decide +kernel
set_option maxRecDepth 100000 in
theorem cw263 : lw_tbl[1129]? = some (mtC 263) := rfl
theorem gw263 : goodWord (mtC 263) = true := rfl
theorem mt264 : mtOK 264 = true := by decide +kernel
set_option maxRecDepth 100000 in
theorem cw264 : lw_tbl[1129]? = some (mtC 264) := rfl
theorem gw264 : goodWord (mtC 264) = true := rfl
theorem mt265 : mtOK 265 = true := by decide +kernel
set_option maxRecDepth 100000 in
theorem cw265 : lw_tbl[1129]? = some (mtC 265) := rfl
theorem gw265 : goodWord (mtC 265) = true := rfl
theorem mt266 : mtOK 266 = true := by decide +kernel
set_option maxRecDepth 100000 in
theorem cw266 : lw_tbl[1129]? = some (mtC 266) := rfl
theorem gw266 : goodWord (mtC 266) = true := rfl
theorem mt267 : mtOK 267 = true := by decide +kernel
set_option maxRecDepth 100000 in
theorem cw267 : lw_tbl[1129]? = some (mtC 267) := rfl
theorem gw267 : goodWord (mtC 267) = true := rfl
theorem mt268 : mtOK 268 = true := by decide +kernel
set_option maxRecDepth 100000 in
theorem cw268 : lw_tbl[1129]? = some (mtC 268) := rfl
theorem gw268 : goodWord (mtC 268) = true := rfl
theorem mt270 : mtOK 270 = true := by decide +kernel
set_option maxRecDepth 100000 in
theorem cw270 : lw_tbl[1125]? = some (mtC 270) := rfl
theorem gw270 : goodWord (mtC 270) = true := rfl
theorem mt271 : mtOK 271 = true := by decide +kernel
set_option maxRecDepth 100000 in
theorem cw271 : lw_tbl[1135]? = some (mtC 271) := rfl
theorem gw271 : goodWord (mtC 271) = true := rfl
theorem mt272 : mtOK 272 = true := by decide +kernel
set_option maxRecDepth 100000 in
theorem cw272 : lw_tbl[1129]? = some (mtC 272) := rfl
theorem gw272 : goodWord (mtC 272) = true := rfl
theorem mt273 : mtOK 273 = true := by decide +kernel
set_option maxRecDepth 100000 in
theorem cw273 : lw_tbl[1129]? = some (mtC 273) := rfl
theorem gw273 : goodWord (mtC 273) = true := rfl
theorem mt274 : mtOK 274 = true := by decide +kernel
set_option maxRecDepth 100000 in
theorem cw274 : lw_tbl[1129]? = some (mtC 274) := rfl
theorem gw274 : goodWord (mtC 274) = true := rfl
theorem mt275 : mtOK 275 = true := by decide +kernel
set_option maxRecDepth 100000 in
theorem cw275 : lw_tbl[1139]? = some (mtC 275) := rfl
theorem gw275 : goodWord (mtC 275) = true := rfl
theorem mt276 : mtOK 276 = true := by decide +kernel
set_option maxRecDepth 100000 in
theorem cw276 : lw_tbl[1145]? = some (mtC 276) := rfl
theorem gw276 : goodWord (mtC 276) = true := rfl
theorem mt277 : mtOK 277 = true := by decide +kernel
set_option maxRecDepth 100000 in
theorem cw277 : lw_tbl[1142]? = some (mtC 277) := rfl
theorem gw277 : goodWord (mtC 277) = true := rfl
theorem mt278 : mtOK 278 = true := by decide +kernel
set_option maxRecDepth 100000 in
theorem cw278 : lw_tbl[1129]? = some (mtC 278) := rfl
theorem gw278 : goodWord (mtC 278) = true := rfl
theorem mt279 : mtOK 279 = true := by decide +kernel
set_option maxRecDepth 100000 in
theorem cw279 : lw_tbl[1129]? = some (mtC 279) := rfl
theorem gw279 : goodWord (mtC 279) = true := rfl
theorem mt280 : mtOK 280 = true := by decide +kernel
set_option maxRecDepth 100000 in
theorem cw280 : lw_tbl[1129]? = some (mtC 280) := rfl
theorem gw280 : goodWord (mtC 280) = true := rfl
theorem mt281 : mtOK 281 = true := by decide +kernel
set_option maxRecDepth 100000 in
theorem cw281 : lw_tbl[938]? = some (mtC 281) := rfl
theorem gw281 : goodWord (mtC 281) = true := rfl
theorem mt282 : mtOK 282 = true := by decide +kernel
set_option maxRecDepth 100000 in
theorem cw282 : lw_tbl[1372]? = some (mtC 282) := rfl
theorem gw282 : goodWord (mtC 282) = true := rfl
theorem mt283 : mtOK 283 = true := by decide +kernel
set_option maxRecDepth 100000 in
theorem cw283 : lw_tbl[744]? = some (mtC 283) := rfl
theorem gw283 : goodWord (mtC 283) = true := rfl
theorem mt284 : mtOK 284 = true := by decide +kernel
set_option maxRecDepth 100000 in
theorem cw284 : lw_tbl[558]? = some (mtC 284) := rfl
theorem gw284 : goodWord (mtC 284) = true := rfl
theorem mt285 : mtOK 285 = true := by decide +kernel
set_option maxRecDepth 100000 in
theorem cw285 : lw_tbl[510]? = some (mtC 285) := rfl
theorem gw285 : goodWord (mtC 285) = true := rfl
theorem mt286 : mtOK 286 = true := by decide +kernel
set_option maxRecDepth 100000 in
theorem cw286 : lw_tbl[768]? = some (mtC 286) := rfl
theorem gw286 : goodWord (mtC 286) = true := rfl
theorem mt287 : mtOK 287 = true := by decide +kernel
set_option maxRecDepth 100000 in
theorem cw287 : lw_tbl[772]? = some (mtC 287) := rfl
theorem gw287 : goodWord (mtC 287) = true := rfl
