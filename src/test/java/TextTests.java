/** Promises 37 to 41: texts. */
final class TextTests {
    private TextTests() {
    }

    private static void fault(String text, int place) {
        PromiseTest.promise(39, "text, the fault of \"" + text + "\"",
                "tape " + text + "\ntext(0, 9) " + (-10 - place) + "\ncount(6) 0\ncount(7) "
                + text.length() + "\nstatus(-8) 0\nstatus(-7) 0");
    }

    private static void value(String e, int due) {
        PromiseTest.promise(40, "says, the value of " + e, """
                house(0, 0) 1
                gold(0, 900) 900
                give(0, 1, 301) 899
                rate(6) 5
                run(15) 0
                """ + "tape out " + e + "\ntext(0, 99) 0\nsays(0, -1) " + due);
    }

    static void all() {
        PromiseTest.promise(37, "feed", """
                feed(1633837924, 4) 4
                feed(65, 0) 4
                feed(-1, 1) 5
                feed(1633837924, 2) 7
                feed(5, -1) -4
                feed(5, -2147483648) -4
                feed(5, 5) -7
                28 x feed(0, 4) ?
                count(7) 119
                feed(0, 2) -8
                feed(0, 1) 120
                feed(0, 0) 120
                feed(0, 1) -8
                feed(0, 5) -7                # NO is ahead of FULL
                feed(0, -1) -4
                status(-4) 3
                wipe() 120
                """);
        PromiseTest.promise(37, "feed, the highest byte first", """
                feed(1869968416, 4) 4
                feed(1094857272, 2) 6        # its two lowest bytes are 2 and 8
                feed(-200, 1) 7              # its lowest byte is 8
                text(0, 9) 0
                says(0, -1) 288
                """);
        PromiseTest.promise(38, "wipe", """
                wipe() 0
                feed(5, 3) 3
                wipe() 3
                wipe() 0
                count(7) 0
                """);
        texts();
        faults();
        values();
        says();
    }

    private static void texts() {
        PromiseTest.promise(39, "text", """
                tape out 5
                text(0, 0) -7
                text(5, 5) -7
                text(6, 5) -7
                text(-1, 5) -7
                text(0, 1001) -7
                text(1000, 1001) -7
                text(-5, -2) -7
                count(7) 5
                text(0, 1000) 0
                count(7) 0
                count(6) 1
                text(0, 9) -10               # THE TAPE is empty: the fault is its end
                tape out 6
                text(999, 1000) 1
                says(0, -1) 5
                """);
        PromiseTest.promise(39, "text, no room", """
                tape out 1
                text(0, 9) 0
                tape out 2
                text(0, 9) 1
                tape out 3
                text(0, 9) 2
                tape out 4
                text(0, 9) 3
                tape out 5
                text(0, 9) 4
                tape out 6
                text(0, 9) 5
                tape out 7
                text(0, 9) 6
                tape out 8
                text(0, 9) 7
                tape out 9
                text(0, 9) 8
                tape out 10
                text(0, 9) 9
                tape out 11
                text(0, 9) 10
                tape out 12
                text(0, 9) 11
                why(0, -1) 11
                tape out (
                text(0, 9) -8                # FULL is ahead of the FAULT
                text(9, 9) -7
                count(7) 5
                """);
        PromiseTest.promise(39, "text, in force", """
                tape out 7
                text(2, 4) 0
                says(0, -1) 0
                run(2) 0
                says(0, -1) 7
                run(1) 0
                says(0, -1) 7
                run(1) 0
                says(0, -1) 0
                why(0, -1) -1
                """);
    }

    private static void faults() {
        fault("out", 3);
        fault("out 5 +", 7);
        fault("out (1", 6);
        fault("out 1)", 5);
        fault("out 1 2", 6);
        fault("out 1<2<3", 7);
        fault("out 123456", 4);
        fault("out 12345 if", 12);
        fault("out 1 if 2 if 3", 11);
        fault("gold 5", 0);
        fault("if 5", 0);
        fault("5", 0);
        fault("Out 5", 0);
        fault("outs 5", 0);
        fault("ou 5", 0);
        fault("outz 5", 0);
        fault("z", 0);
        fault("out 1 if (((((((1)))))))", 15);
        fault("out5x", 4);
        fault("out rate", 4);
        fault("out goldgold", 4);
        fault("out gold gold", 9);
        fault("out 1;", 5);
        fault("out +1", 4);
        fault("out 1 or", 8);
        fault("out or 1", 4);
        fault("out 1 not 2", 6);
        fault("out 1 + not 2", 8);
        fault("out 1 = not 2", 8);
        fault("out 1*-", 7);
        fault("out 1 and and 2", 10);
        fault("out ()", 5);
        fault("out (1 2)", 7);
        fault("out 1 if", 8);
        fault("out if 1", 4);
        fault("out (((((((1)))))))", 10);
        fault("out -------1", 10);
        fault("out not not not not not not not 1", 28);
        fault("out ((((((-1))))))", 10);
        fault("out ((((((not 1))))))", 10);
        fault("out not 1=------1", 15);
        fault("out -(not(-(not(1))))", 12);
        PromiseTest.promise(39, "text, six that are open, and bytes beyond", """
                tape out ((((((1))))))+((((((1))))))
                text(0, 9) 0
                tape out ------1
                text(0, 9) 1
                tape out not not not not not not 1
                text(0, 9) 2
                tape out not 1 and ------1
                text(0, 9) 3
                tape out -1-1-1-1-1-1-1-1
                text(0, 9) 4
                tape out ((((((1)))))) if ((((((1))))))
                text(0, 9) 5
                tape out 5 +
                feed(32, 1) 8
                text(0, 9) -18
                wipe() 8
                feed(32, 1) 1
                text(0, 9) -11
                tape out 5
                feed(0, 1) 6
                text(0, 9) -15
                tape out 5
                feed(255, 1) 6
                text(0, 9) -15
                tape out 5
                feed(10, 1) 6
                text(0, 9) -15
                """);
    }

    private static void values() {
        value("1+2*3-4", 3);
        value("7-2-1", 4);
        value("100/7/2", 7);
        value("17%5*2", 4);
        value("0-7/2", -3);
        value("(0-7)/2", -3);
        value("(0-7)%4", -3);
        value("5/0+6%0", 0);
        value("1<2", 1);
        value("2<2", 0);
        value("2>1", 1);
        value("2>2", 0);
        value("2=2", 1);
        value("1=2", 0);
        value("5 or 0", 1);
        value("0 or 0", 0);
        value("5 and 9", 1);
        value("5 and 0", 0);
        value("1 or 0 and 0", 1);
        value("not 5", 0);
        value("not 0", 1);
        value("not 0=1", 1);
        value("not not 7", 1);
        value("--7", 7);
        value("-2*3", -6);
        value("2*-3", -6);
        value("(1 or 0)+5", 6);
        value("99999*99999", 1409865409);
        value("0-99999*99999*0-1", -1);
        value("99999*21475", 2147478525);
        value("99999*21476", -2147388772);
        value("00012", 12);
        value("gold", 899);
        value("notes", 300);
        value("reserve", 299);
        value("week", 2);
        value("day", 15);
        value("price", 6);
        value("sum+days+names+town", 0);
        value("3 if 1", 3);
        value("3 if 0", 899);
        value("3 if reserve<299 or day=15", 3);
    }

    private static void says() {
        PromiseTest.promise(40, "says", PaperTests.FOUR + """
                gold(0, 321) 321
                says(0, -1) 321
                says(2, -1) 1
                says(3, -1) 0
                says(4, -1) 0
                says(5, -1) 63
                says(6, -1) 0
                status(-2) 0
                says(1, -1) 0
                status(-2) 1
                says(7, -1) 0
                says(-1, -1) 0
                says(0, 0) 0
                says(0, -2) 0
                says(7, 60) 0
                status(-3) 5
                bill(1, 2, 77, 20) 0
                promise(1, 2, 5, 5) 1
                says(0, 1) 0
                status(-5) 1
                says(9, 1) 0                 # BEYOND is ahead of KIND
                status(-3) 6
                says(1, 1) 0                 # KIND is ahead of MISSING
                status(-5) 2
                tape rate 0-5
                text(0, 9) 0
                says(1, -1) -5
                status(-5) 2
                tape lend sum*1000+days*100+names*10+town
                text(0, 9) 1
                says(3, 0) 79020
                says(3, -1) 0
                tape out sum
                text(0, 9) 2
                says(0, 0) 77
                says(0, -1) 0
                run(3) 0
                says(3, 0) 78720
                tape hide 0-3
                text(0, 9) 3
                says(4, -1) -3
                tape lend 500
                text(0, 9) 4
                says(3, 0) 500
                """);
        PromiseTest.promise(40, "says, of a bill that is dead", """
                town() 1
                house(0, 1) 1
                house(0, 0) 2
                bill(1, 2, 50, 1) 0
                run(3) 1
                tape show days*100+names*10+town
                text(0, 9) 0
                says(5, 0) -189
                """);
        PromiseTest.promise(41, "why", PaperTests.FOUR + """
                why(1, -1) -1
                tape rate 3
                text(0, 9) 0
                tape rate 4 if days
                text(0, 9) 1
                tape rate 5
                text(2, 9) 2
                bill(1, 2, 77, 20) 0
                promise(1, 2, 5, 5) 1
                why(1, -1) 0
                why(1, 0) 1
                says(1, 0) 4
                why(0, -1) -1
                run(2) 0
                why(1, -1) 2
                why(7, -1) -3
                why(-1, -1) -3
                why(1, 2) -3
                why(1, -2) -3
                why(1, 1) -5
                why(7, 1) -3
                status(-3) 5
                status(-5) 1
                """);
    }
}
