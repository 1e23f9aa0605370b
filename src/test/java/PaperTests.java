/** Promises 19 to 29: papers. */
final class PaperTests {
    private PaperTests() {
    }

    static final String FOUR = """
            house(0, 0) 1
            house(0, 0) 2
            house(1, 0) 3
            house(1, 0) 4
            """;

    static void all() {
        PromiseTest.promise(19, "promise", FOUR + """
                promise(1, 2, 1, 1) 0
                promise(3, 4, 9999, 60) 1
                of(1, 0) 0
                of(1, 1) 9999
                of(1, 2) 3
                of(1, 3) 4
                of(1, 4) 60
                of(1, 5) 0
                promise(1, 2, 0, 1) -7
                promise(1, 2, 10000, 1) -7
                promise(1, 2, 5, 0) -7
                promise(1, 2, 5, 61) -7
                promise(1, 1, 5, 5) -7
                promise(0, 1, 5, 5) -5
                promise(1, 0, 0, 5) -5       # KIND is ahead of NO
                promise(5, 0, 5, 5) -3       # BEYOND is ahead of KIND
                promise(1, -1, 5, 5) -3
                58 x promise(1, 2, 5, 9) ?
                count(4) 60
                promise(1, 2, 5, 5) -8
                promise(1, 2, 0, 5) -7       # NO is ahead of FULL
                gold(1, 1) 1
                run(2) 0
                count(4) 59
                promise(1, 2, 5, 5) 0        # the least number that is free
                """);
        PromiseTest.promise(19, "promise, down", LandTests.ONE_DOWN + """
                promise(1, 2, 5, 5) -7
                promise(2, 1, 5, 5) -7
                """);
        PromiseTest.promise(20, "bill", FOUR + """
                bill(1, 2, 100, 10) 0
                of(0, 0) 1
                of(0, 2) 1
                of(0, 3) 2
                of(0, 4) 10
                of(0, 6) 2
                name(0, 0) 1
                name(0, 1) 2
                of(0, 10) 0
                bill(1, 1, 5, 5) -7
                bill(1, 2, 0, 5) -7
                bill(1, 2, 10000, 5) -7
                bill(1, 2, 5, 0) -7
                bill(1, 2, 5, 61) -7
                bill(1, 0, 5, 5) -5
                bill(0, 1, 5, 5) -5
                bill(1, 5, 0, 0) -3
                promise(1, 2, 9, 1) 1
                run(2) 1
                bill(1, 2, 5, 5) -7
                bill(2, 1, 5, 5) -7
                58 x bill(2, 3, 5, 5) ?
                bill(2, 3, 5, 5) -8
                """);
        PromiseTest.promise(21, "deposit", FOUR + """
                gold(1, 100) 100
                deposit(1, 3, 60) 0
                look(1, 2) 40
                look(3, 2) 60
                of(0, 0) 2
                of(0, 1) 60
                of(0, 2) 3
                of(0, 3) 1
                of(0, 4) -1
                deposit(1, 3, 41) -7
                deposit(1, 2, 10) -5
                deposit(1, 0, 10) -5
                deposit(0, 3, 10) -5
                deposit(3, 3, 10) -7
                deposit(3, 4, 10) 1
                deposit(1, 3, 0) -7
                deposit(1, 3, 10000) -7
                deposit(1, 5, 0) -3
                deposit(-1, 2, 0) -3         # BEYOND is ahead of KIND
                deposit(1, 2, 0) -5          # KIND is ahead of NO
                58 x bill(1, 2, 5, 5) ?
                deposit(1, 3, 10) -8
                deposit(1, 3, 41) -7         # NO is ahead of FULL
                look(1, 2) 40
                """);
        PromiseTest.promise(21, "deposit, down", FOUR + """
                gold(1, 50) 50
                gold(2, 50) 50
                deposit(1, 3, 20) 0
                give(3, 2, 20) 0
                ask(0) 0
                deposit(1, 3, 10) -7         # the bank is down
                promise(1, 2, 99, 1) 1
                run(2) 1
                deposit(1, 4, 10) -7
                """);
        helps();
        sales();
        PromiseTest.promise(24, "ask", FOUR + """
                gold(1, 100) 100
                deposit(1, 3, 60) 0
                deposit(1, 3, 40) 1
                promise(1, 2, 5, 9) 2
                give(3, 2, 35) 65
                ask(1) 1
                look(1, 2) 40
                look(3, 2) 25
                ask(1) -3
                ask(2) -5
                ask(60) -3
                ask(-1) -3
                ask(0) 0
                look(3, 4) 0
                look(3, 2) 25                # nothing is given
                of(0, 5) 2
                ask(0) -7                    # it isn't live any more
                down(3, 3) 2
                """);
        PromiseTest.promise(24, "ask, the holder down", FOUR + """
                gold(1, 20) 20
                deposit(1, 3, 20) 0
                promise(1, 2, 5, 1) 1
                run(2) 1
                ask(0) -7
                of(0, 5) 0
                """);
        PromiseTest.promise(25, "of", FOUR + """
                gold(0, 1000) 1000
                gold(1, 100) 100
                tape lend 60
                text(0, 99) 0
                bill(1, 2, 100, 30) 0
                help(0, 9) 1
                deposit(1, 3, 10) 2
                promise(2, 1, 7, 3) 3
                of(0, 7) 1
                of(0, 3) 0
                of(0, 8) -1
                of(0, 9) -1
                of(0, 10) 0
                of(1, 0) 3
                of(1, 1) 60
                of(1, 2) 2
                of(1, 3) 0
                of(1, 4) 9
                of(1, 6) 0
                of(1, 7) 0
                of(1, 8) 0
                of(2, 4) -1
                of(2, 6) 0
                of(3, 6) 0
                of(3, 8) -1
                of(3, 9) -1
                of(3, 11) -7
                of(3, -1) -7
                of(4, 0) -3
                of(4, 11) -3                 # BEYOND is ahead of NO
                of(60, 0) -3
                of(-1, 0) -3
                trade(1, 2, 100, 60) 0
                run(1) 0
                of(4, 10) 1
                of(4, 1) 90
                """);
        PromiseTest.promise(26, "name", FOUR + """
                bill(1, 2, 100, 30) 0
                promise(1, 2, 5, 5) 1
                name(0, 0) 1
                name(0, 1) 2
                name(0, 2) -3
                name(0, -1) -3
                name(1, 0) -5
                name(1, -1) -5               # KIND is ahead of BEYOND (i)
                name(2, 0) -3
                name(60, 0) -3
                name(-1, 9) -3
                """);
        PromiseTest.promise(27, "price", FOUR + """
                bill(1, 2, 9999, 60) 0
                promise(1, 2, 5, 5) 1
                bill(1, 3, 100, 1) 2
                price(0, 0) 9999
                price(0, 5) 9916             # 9999 * 5 * 60 / 36000 is 83.3
                price(0, 30) 9500
                price(0, 31) -7
                price(0, -1) -7
                price(1, 5) -5
                price(1, 31) -5              # KIND is ahead of NO
                price(9, 31) -3
                price(-1, 5) -3
                run(1) 0
                price(0, 5) 9918
                price(2, 30) 100             # due on the open day
                run(1) 1
                price(2, 5) -7               # not live
                price(0, 30) 9516
                """);
        claims();
    }

    private static void helps() {
        PromiseTest.promise(22, "help", FOUR + """
                gold(0, 5000) 5000
                bill(1, 2, 3000, 60) 0
                help(0, 10) -7               # without a law lend nothing is lent
                tape lend 100
                text(0, 99) 0
                promise(1, 2, 5, 5) 1
                help(0, 0) -7
                help(0, 61) -7
                help(0, 60) -7               # it must be less than is left
                help(1, 5) -5
                help(2, 5) -3
                help(60, 0) -3
                help(-1, 0) -3
                help(0, 59) 2
                of(2, 1) 3024                # 3000 * 5 * 59 / 36000 is 24.5
                of(2, 4) 59
                of(2, 8) 0
                look(2, 3) 300
                of(0, 7) 1
                of(0, 3) 0
                of(0, 6) 2                   # no name comes by it
                help(0, 5) -5
                help(0, 0) -5                # KIND is ahead of NO
                sell(0) -5
                """);
        PromiseTest.promise(22, "help, by the bill", FOUR + """
                gold(0, 500) 500
                tape lend sum/2+names if days>5
                text(0, 99) 0
                bill(1, 2, 75, 6) 0
                help(0, 5) 1                 # 75 * 39 / 100
                of(1, 1) 29
                bill(1, 2, 400, 6) 2
                help(2, 1) 3                 # 202 counts as 100
                of(3, 1) 400
                bill(1, 2, 20, 5) 4
                help(4, 1) -7                # its if is not so
                bill(1, 2, 5, 9) 5
                help(5, 1) -7                # 5 * 4 / 100 is 0
                tape lend 0-7
                text(0, 99) 1
                bill(1, 2, 100, 9) 6
                says(3, 6) -7
                help(6, 1) -7
                """);
        PromiseTest.promise(22, "help, THE BANK can't, no room, states", FOUR + """
                gold(0, 50) 50
                tape lend 100
                text(0, 99) 0
                bill(1, 2, 60, 9) 0
                bill(1, 2, 50, 9) 1
                bill(1, 2, 40, 1) 2
                bill(1, 3, 40, 5) 3
                help(0, 2) -7                # OUT would be 60
                56 x promise(3, 4, 9, 60) ?
                help(1, 2) -8
                help(1, 9) -7                # NO is ahead of FULL
                help(0, 2) -7
                run(2) 1
                of(2, 5) 2
                help(2, 1) -7                # it isn't live
                """);
        PromiseTest.promise(22, "help, paid, and not", FOUR + """
                gold(0, 900) 900
                gold(1, 500) 500
                tape lend 50
                text(0, 99) 0
                bill(1, 2, 200, 20) 0
                help(0, 3) 1
                bill(1, 3, 300, 20) 2
                help(2, 3) 3
                give(3, 1, 100) 0
                run(4) 1                     # 2 pays, 3 can't
                of(1, 0) -3
                of(0, 3) 2
                of(0, 7) 0
                look(2, 3) 0
                of(3, 5) 2
                of(3, 8) 2
                of(2, 3) 0
                of(2, 7) 0
                down(3, 1) 3
                down(3, 2) 0
                gets(3) 50
                sheet(0, 0) -3
                run(3) 0
                sheet(0, 2) 300
                help(0, 5) 1                 # 2 borrows once more, from the least free number
                """);
        PromiseTest.promise(22, "help, the holder down", FOUR + """
                gold(0, 900) 900
                tape lend 50
                text(0, 99) 0
                bill(1, 2, 200, 20) 0
                promise(2, 1, 5, 1) 1
                run(2) 1
                help(0, 3) -7
                sell(0) -7
                """);
    }

    private static void sales() {
        PromiseTest.promise(23, "sell, to THE BANK", FOUR + """
                gold(0, 1190) 1190
                bill(1, 2, 1200, 60) 0
                sell(0) 1190                 # 1200 * 5 * 60 / 36000 is 10
                look(2, 3) 119
                of(0, 3) 0
                of(0, 6) 2                   # its name is the last of them already
                sell(0) -5
                bill(1, 2, 10, 9) 1
                sell(1) 0                    # no more may be out
                count(12) 1
                of(1, 3) 2
                promise(1, 2, 5, 9) 2
                sell(2) -5
                sell(3) -3
                sell(60) -3
                sell(-1) -3
                status(-7) 0
                """);
        PromiseTest.promise(23, "sell, to a bank, and on", FOUR + """
                gold(0, 2000) 2000
                mind(2, 0, 3) 0
                mind(3, 12, 0) 0
                gold(3, 1199) 1199
                bill(1, 2, 1200, 60) 0
                sell(0) 0                    # its MIN would be broken
                count(12) 0                  # not by THE BANK
                gold(3, 1) 1200
                sell(0) 1188                 # at RATE and 1
                look(3, 2) 12
                of(0, 3) 3
                of(0, 6) 2
                sell(0) 1190
                of(0, 6) 3
                name(0, 2) 3
                of(0, 3) 0
                look(3, 3) 119
                look(3, 2) 12
                """);
        PromiseTest.promise(23, "sell, COIN counts notes, giving needs gold", FOUR + """
                gold(0, 2000) 2000
                give(0, 3, 30) 2000
                mind(2, 0, 3) 0
                bill(1, 2, 25, 6) 0
                sell(0) 0                    # 25 of 30: but 5 in gold it hasn't
                gold(3, 5) 5
                sell(0) 25
                look(2, 3) 2
                look(2, 2) 5
                """);
        PromiseTest.promise(23, "sell, to a bank that is down, or the debtor", FOUR + """
                gold(1, 50) 50
                mind(2, 0, 3) 0
                bill(1, 2, 20, 6) 0
                bill(3, 2, 20, 6) 1
                gold(3, 20) 20
                sell(1) 20                   # a bank buys what it owes
                of(1, 3) 3
                deposit(1, 3, 50) 2
                give(3, 4, 50) 0
                ask(2) 0
                sell(0) 0
                sell(1) -7                   # the holder is down
                """);
        PromiseTest.promise(23, "sell, the law buy", FOUR + """
                gold(0, 2000) 2000
                tape buy sum<100 and days>3 and town=0
                text(0, 5) 0
                bill(1, 2, 99, 9) 0
                bill(1, 2, 100, 9) 1
                bill(1, 2, 99, 3) 2
                sell(0) ?
                of(0, 3) 0
                sell(1) 0
                sell(2) 0
                count(12) 2
                run(3) 0
                sell(2) -7                   # due on the open day
                sell(1) 0
                run(2) 1
                sell(1) 100                  # no law any more: bought
                """);
    }

    private static void claims() {
        PromiseTest.promise(28, "gets", FOUR + """
                gold(1, 60) 60
                gold(2, 40) 40
                gold(4, 30) 30
                deposit(1, 3, 60) 0
                deposit(2, 3, 40) 1
                promise(3, 4, 90, 5) 2
                bill(3, 4, 30, 20) 3
                promise(4, 2, 10, 50) 4
                give(3, 4, 50) 50
                gets(0) -2
                gets(5) -3
                gets(60) -3
                gets(-1) -3
                run(1) 0
                ask(0) 0                     # 60 can't be given by 50
                gets(0) 30
                gets(1) 20
                gets(2) 0
                gets(3) 0
                gets(4) -2
                assets(3) 50
                """);
        PromiseTest.promise(28, "gets, what is left behind the deposits", FOUR + """
                gold(1, 60) 60
                gold(2, 40) 40
                deposit(1, 3, 60) 0
                deposit(2, 3, 40) 1
                gold(3, 30) 130
                promise(3, 4, 190, 1) 2
                bill(3, 4, 10, 20) 3
                bill(4, 3, 7, 20) 4
                run(2) 1
                gets(0) 60
                gets(1) 40
                gets(2) 35                   # 190 * 37 / 200
                gets(3) 1
                assets(3) 137
                assets(4) -2
                assets(0) -2
                assets(5) -3
                """);
        PromiseTest.promise(29, "assets, of two that owe each other", FOUR + """
                promise(1, 2, 100, 2) 0
                promise(2, 1, 60, 4) 1
                promise(1, 3, 50, 9) 2
                run(5) 2
                gold(1, 5) -7
                gets(0) 0
                gets(1) 0
                assets(1) 0
                promise(4, 1, 30, 9) -7
                bill(4, 3, 8, 9) 3
                assets(2) 0
                assets(3) -2
                assets(-1) -3
                assets(5) -3
                """);
        PromiseTest.promise(29, "assets, a round of claims", FOUR + """
                gold(1, 9) 9
                gold(2, 30) 30
                promise(1, 2, 100, 2) 0
                promise(2, 1, 60, 4) 1
                promise(2, 4, 60, 9) 2
                promise(4, 1, 6, 50) 3
                run(5) 2
                gets(0) 59
                gets(1) 44
                gets(2) 44
                assets(1) 59
                assets(2) 89
                """);
        PromiseTest.promise(29, "assets, a bank's claim on itself", FOUR + """
                gold(3, 12) 12
                mind(2, 0, 3) 0
                bill(3, 2, 10, 30) 0
                sell(0) 10
                promise(3, 4, 5, 1) 1
                run(2) 1
                gets(0) 2
                gets(1) 1
                assets(3) 4
                """);
    }
}
