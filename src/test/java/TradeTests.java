/** Promises 30 to 36: trade and rates. */
final class TradeTests {
    private TradeTests() {
    }

    static void all() {
        PromiseTest.promise(30, "trade", PaperTests.FOUR + """
                trade(1, 2, 1, 1) 0
                trade(2, 1, 9999, 60) 1
                trade(1, 2, 0, 1) -7
                trade(1, 2, 10000, 1) -7
                trade(1, 2, 5, 0) -7
                trade(1, 2, 5, 61) -7
                trade(1, 1, 5, 5) -7
                trade(1, 3, 0, 5) -5         # KIND is ahead of NO
                trade(3, 1, 5, 5) -5
                trade(0, 1, 5, 5) -5
                trade(1, 5, 0, 5) -3
                trade(-1, 0, 5, 5) -3
                6 x trade(1, 2, 5, 5) ?
                count(5) 8
                trade(1, 2, 5, 5) -8
                trade(1, 2, 0, 5) -7         # NO is ahead of FULL
                """);
        PromiseTest.promise(30, "trade, what it draws", PaperTests.FOUR + """
                trade(1, 2, 111, 10) 0
                trade(2, 1, 1, 10) 1         # 90 / 100 is 0: none
                trade(1, 2, 200, 60) 2
                goesOn(2, 0) 1
                run(1) 0
                count(4) 1
                of(0, 0) 1
                of(0, 1) 99
                of(0, 2) 1
                of(0, 3) 2
                of(0, 4) 10
                of(0, 6) 2
                name(0, 0) 1
                name(0, 1) 2
                of(0, 10) 1
                run(6) 0
                count(4) 1                   # no more in the week
                rate(20) 5
                goesOn(2, 1) 0
                run(1) 0
                of(1, 1) 66                  # 111 * 60 / 100
                of(2, 1) 120
                of(2, 4) 67
                """);
        PromiseTest.promise(30, "trade, the proceeds", PaperTests.FOUR + """
                tell(0, 0, 99) -1
                tell(0, 1, 60) -1
                trade(1, 2, 100, 6) 0
                run(6) 0
                look(1, 2) 0
                gold(1, 1) 1
                run(1) 0                     # 90 * 99 / 100 is 89, and 1
                look(1, 2) 0
                look(2, 2) 90
                of(0, 0) -3
                run(7) 1                     # 90 * 60 / 100 is 54
                look(1, 2) 54
                look(1, 4) 0
                goesOn(0, 1) 1
                run(7) 0
                count(4) 1                   # one that is down doesn't trade
                """);
        PromiseTest.promise(30, "trade, the proceeds come to each bill by itself", PaperTests.FOUR + """
                promise(1, 3, 90, 9) 0
                trade(1, 2, 100, 9) 0
                run(10) 1                    # the promise is ahead, and can't be paid
                look(1, 2) 0                 # to one that is down nothing comes
                of(1, 5) 2
                """);
        PromiseTest.promise(30, "trade, no paper is free", PaperTests.FOUR + """
                60 x promise(3, 4, 9, 60) ?
                trade(1, 2, 100, 9) 0
                run(8) 0
                count(4) 60
                """);
        PromiseTest.promise(31, "goesOn", PaperTests.FOUR + """
                trade(1, 2, 100, 5) 0
                goesOn(0, 1) 1
                goesOn(0, 0) 1
                goesOn(0, 0) 0
                goesOn(0, 2) -7
                goesOn(0, -1) -7
                goesOn(1, 2) -3              # BEYOND is ahead of NO
                goesOn(-1, 1) -3
                run(7) 0
                count(4) 0
                goesOn(0, 1) 0
                run(1) 0
                count(4) 1
                """);
        PromiseTest.promise(32, "tell", """
                tell(0, 0, 200) -1
                tell(0, 0, 0) 200
                tell(0, 0, -1) 0
                tell(0, 51, 7) -1
                tell(1, 51, 20) -1
                tell(1, 51, 0) 20
                tell(0, 51, 8) 7
                status(-7) 0
                tell(0, 0, 201) 0
                tell(0, 0, -2) 0
                tell(1, 0, 21) 0
                status(-7) 3
                tell(2, 0, 5) 0
                tell(-1, 0, 5) 0
                tell(0, 52, 5) 0
                tell(0, -1, 999) 0           # BEYOND is ahead of NO
                status(-3) 4
                status(-7) 3
                week(0, 0) 8
                week(0, 51) 8
                week(1, 3) 0
                """);
        PromiseTest.promise(33, "read", """
                read(0) -2
                read(2) -3
                read(-1) -3                  # BEYOND is ahead of MISSING
                lay(60) 60
                set(0, 200) 0
                set(1, 201) 0
                set(2, -1) 0
                set(3, -2) 0
                set(51, 33) 0
                set(52, 44) 0
                read(0) 49
                week(0, 0) 200
                week(0, 1) 200
                week(0, 3) 200
                week(0, 4) 0
                week(0, 51) 33
                week(0, 52) 200
                read(1) 47
                week(1, 50) 0
                week(1, 51) 0
                lay(2) 2
                set(0, 20) 0
                set(1, 21) 0
                read(1) ?
                week(1, 0) 20
                week(1, 1) 20
                week(1, 2) 20
                week(1, 4) 0                 # others stay
                lay(0) 0
                read(1) ?
                week(1, 0) 20
                """);
        PromiseTest.promise(34, "week", """
                week(0, 0) 100
                week(1, 0) 5
                tell(0, 10, 70) -1
                week(0, 9) 70
                week(0, 10) 70
                week(0, 0) 70
                tell(0, 50, 30) -1
                week(0, 9) 30
                week(0, 61) 30
                week(0, 62) 70
                week(0, 49) 70
                week(0, 2147483647) 70       # modulo 52 it is 23
                week(1, 10) 5
                week(0, -1) -3
                week(2, 0) -3
                week(-1, 0) -3
                """);
        PromiseTest.promise(35, "flow", """
                flow(100) 0
                flow(0) 100
                flow(7) 0
                flow(101) -7
                flow(-1) -7
                flow(7) 7
                """);
        PromiseTest.promise(35, "flow, the ships", """
                gold(0, 100) 100
                flow(10) 0
                run(6) 0
                look(0, 2) 100
                tell(1, 0, 0) -1
                tell(1, 1, 7) -1
                tell(1, 2, 20) -1
                run(1) 0
                look(0, 2) 150               # 10 times 5 less 0
                run(7) 0
                look(0, 2) 130
                tell(1, 3, 6) -1
                rate(7) 5
                run(7) 0
                look(0, 2) 0                 # 10 times 7 less 20 is just so much
                count(14) -1
                rate(5) 7
                run(7) 0
                look(0, 2) 0                 # 10 it hasn't
                count(14) 27
                run(7) 0
                count(14) 27
                """);
        PromiseTest.promise(36, "rate", """
                rate(20) 5
                rate(0) 20
                rate(7) 0
                rate(21) -7
                rate(-1) -7
                count(15) 7
                tape rate 3 if day>0
                text(0, 2) 0
                rate(8) 7                    # the rule says nothing yet
                run(1) 0
                rate(9) -7
                run(1) 0
                rate(9) 8
                count(15) 9
                """);
    }
}
