import java.util.function.ToIntFunction;

/** The edges that the terms name of a choir's text, and those of promises 2 to 4: each on both its sides. */
public final class EdgesOfChoirTest {
    private static final Checks C = new Checks("EdgesOfChoirTest");
    private static final String ONE = "choir 1 0;";
    private static final String TWO_BOYS = ONE + "boy 1 0 0;boy 1 0 0;";
    private static final String TWO_FARMS = ONE + "farm 1 0;farm 1 0;";

    private EdgesOfChoirTest() { }

    public static void main(String[] args) {
        feedAtTheTapesEnd();
        feedTakesTheHighestByteFirst();
        endAtEachLength();
        textOfFourHundredBytes();
        fortyClauses();
        choirIsTheFirstClauseAndOnce();
        numbers();
        digits();
        likesOfTwoBoys();
        likesLastTold();
        waysOfTwoPlaces();
        waysLastTold();
        shortestWays();
        snowToldTwice();
        sixBoysFourCanonsSixFarms();
        theBegin();
        textCutOff();
        blanks();
        bytesThatCannotStand();
        theFirstFaultAlongTheText();
        theLeastFaultOfAPlace();
        aFaultLeavesAll();
        aChoirInPlaceOfTheOneThereWas();
        C.finish();
    }

    private static void good(String text, int boys) {
        C.due("choir \"" + text + "\"", boys, Checks.choir(new BoyBishop(), text));
    }

    private static void fault(String text, int place, int kind) {
        C.due("choir \"" + text + "\"", Checks.fault(place, kind), Checks.choir(new BoyBishop(), text));
    }

    /** "how many it has; NONE, and none comes, if it would have more than 400" */
    private static void feedAtTheTapesEnd() {
        for (int length = 375; length <= 400; length++) {
            BoyBishop x = new BoyBishop();
            for (int i = 0; i < 20; i++) x.feed(0x20202020, 0x20202020, 0x20202020, 0x20202020, 0x20202020);
            x.end(length);
            boolean fits = length <= 380;
            C.due("feed behind " + length, fits ? length + 20 : -1, x.feed(1, 2, 3, 4, 5));
            C.due("then it has", fits ? length + 20 : length, x.count(19));
            C.due("and they came, or none came", Checks.fault(length, 0), x.choir());
        }
        BoyBishop x = new BoyBishop();
        C.due("feed behind nothing", 20, x.feed(0, 0, 0, 0, 0));
        x.end(1);
        C.due("feed behind one byte", 21, x.feed(-1, -1, -1, -1, -1));
    }

    /** "of each number the highest first": each of the twenty bytes in its place */
    private static void feedTakesTheHighestByteFirst() {
        for (int at = 0; at < 20; at++) {
            int[] five = {0x20202020, 0x20202020, 0x20202020, 0x20202020, 0x20202020};
            five[at / 4] ^= 0x80 << 24 - at % 4 * 8;
            BoyBishop x = new BoyBishop();
            x.feed(five[0], five[1], five[2], five[3], five[4]);
            C.due("byte " + at, Checks.fault(at, 0), x.choir());
        }
    }

    /** "n; NONE, and nothing happens, if it has not so many, or n is below 0" */
    private static void endAtEachLength() {
        BoyBishop x = new BoyBishop();
        C.due("0 of none", 0, x.end(0));
        C.due("1 of none", -1, x.end(1));
        for (int i = 0; i < 20; i++) x.feed(0, 0, 0, 0, 0);
        C.due("401 of 400", -1, x.end(401));
        C.due("the greatest of 400", -1, x.end(Integer.MAX_VALUE));
        C.due("-1 of 400", -1, x.end(-1));
        C.due("the least of 400", -1, x.end(Integer.MIN_VALUE));
        C.due("it has 400", 400, x.count(19));
        for (int n = 400; n >= 0; n -= 25) {
            C.due(n + " alone", n, x.end(n));
            C.due("one more than " + n, -1, x.end(n + 1));
            C.due("it has " + n, n, x.count(19));
        }
        x.feed(0x63686f69, 0x72203120, 0x30212121, 0, 0);
        x.end(9);
        C.due("what is behind the end is gone", 0, x.choir());
        x.feed(0x63686f69, 0x72203120, 0x30212121, 0, 0);
        x.end(8);
        C.due("what was behind the end does not come back", 28, x.feed(0x37202020, 0x20202020, 0x20202020, 0x20202020, 0x20202020));
        C.due("seven hours", 0, x.choir());
        C.due("they are seven", 7, x.count(1));
    }

    /** "A CHOIR is a text of at most 400 bytes" */
    private static void textOfFourHundredBytes() {
        good("choir 1 0" + " ".repeat(391), 0);
        BoyBishop x = new BoyBishop();
        C.due("a number as the last of 400 bytes", 1, Checks.choir(x, "choir 1 0;boy 9 8" + " ".repeat(382) + "7"));
        C.due("it is told", 7, x.boy(0, 2));
        fault("choir 1 0;boy 9 8" + " ".repeat(382) + "x", 399, 0);
        fault("choir 1 0;boy 9 8" + " ".repeat(383), 400, 0);
        fault("choir 1 0;boy 9 8 7" + " ".repeat(380) + ";", 400, 0);
        C.due("a full tape", 400, full(x));
        C.due("is a choir", 0, x.choir());
        C.due("and the tape is empty then", 0, x.count(19));
        C.due("and takes twenty again", 20, x.feed(0, 0, 0, 0, 0));
    }

    private static int full(BoyBishop x) {
        Checks.say(x, "choir 1 0" + " ".repeat(391));
        x.feed(0x21212121, 0, 0, 0, 0);
        return x.count(19);
    }

    /** "40 at most"; "one CLAUSE too many (at its first byte)" */
    private static void fortyClauses() {
        good("choir 1 0" + ";snow 0".repeat(38), 0);
        good("choir 1 0" + ";snow 0".repeat(39), 0);
        fault("choir 1 0" + ";snow 0".repeat(40), 283, 4);
        fault("choir 1 0" + ";snow 0".repeat(39) + ";  boy 1 0 0", 285, 4);
        fault("choir 1 0" + ";snow 0".repeat(39) + ";snow 61", 283, 4);
        fault("choir 1 0" + ";snow 0".repeat(39) + ";choir 1 0", 283, 4);
        good("choir 1 0" + ";boy 1 0 0" + ";snow 0".repeat(38), 1);
        fault("choir 1 0" + ";boy 1 0 0" + ";snow 0".repeat(39), 286, 4);
    }

    /** "once, the first CLAUSE"; "a second choir, another CLAUSE ahead of it" */
    private static void choirIsTheFirstClauseAndOnce() {
        good("choir 1 0", 0);
        for (String clause : new String[] {"boy 1 0 0", "likes 0 0 0", "canon 20 0", "farm 0 0", "way 0 1 1", "snow 0", "boy", "snow 61"}) {
            fault(clause, 0, 4);
            fault("  " + clause + ";choir 1 0", 2, 4);
        }
        fault("choir 1 0;choir 1 0", 10, 4);
        fault("choir 1 0;boy 1 0 0; choir", 21, 4);
        fault("choir 1 0;choirs 1 0", 10, 0);
    }

    private static void numbers() {
        number("choir ", " 0", 1, 40, x -> x.count(0));
        number("choir 1 ", "", 0, 24, x -> x.count(1));
        number("choir 1 ", ";boy 1 0 0", 0, 24, x -> x.count(1));
        number(ONE + "boy ", " 0 0", 1, 99, x -> x.boy(0, 0));
        number(ONE + "boy 1 ", " 0", 0, 20, x -> x.boy(0, 1));
        number(ONE + "boy 1 0 ", "", 0, 9, x -> x.boy(0, 2));
        number(TWO_BOYS + "likes 1 0 ", "", 0, 20, x -> x.likes(1, 0));
        number(ONE + "canon ", " 0", 20, 99, x -> x.canon(0, 0));
        number(ONE + "canon 20 ", "", 0, 99, x -> x.canon(0, 1));
        number(ONE + "farm ", " 0", 0, 60, x -> x.farm(0, 0));
        number(ONE + "farm ", " 0", 0, 60, x -> x.farm(0, 2));
        number(ONE + "farm 0 ", "", 0, 9, x -> x.farm(0, 1));
        number(TWO_FARMS + "way 0 2 ", "", 1, 12, x -> x.farm(1, 3));
        number(ONE + "snow ", "", 0, 60, EdgesOfChoirTest::firstSnow);
        number(ONE + "boy 1 0 0;likes 0 ", " 9", 0, 0, x -> x.likes(0, 0) - 9);
        number(ONE + "boy 1 0 0;likes ", " 0 9", 0, 0, x -> x.likes(0, 0) - 9);
        number(ONE + "farm 1 0;way 0 ", " 9", 1, 1, x -> x.farm(0, 3) - 8);
        number(ONE + "farm 1 0;way ", " 0 9", 1, 1, x -> x.farm(0, 3) - 8);
    }

    private static int firstSnow(BoyBishop x) {
        int days = 0;
        while (x.count(13) == 0 && days < 99) {
            x.day();
            days++;
        }
        return days;
    }

    /** "1 a NUMBER ... not as told": each one from the least to the most is told, those beside them are faults. */
    private static void number(String ahead, String behind, int least, int most, ToIntFunction<BoyBishop> read) {
        for (int n = least; n <= most; n++) {
            BoyBishop x = new BoyBishop();
            C.due("choir \"" + ahead + n + behind + "\" is good", 1, Checks.choir(x, ahead + n + behind) >= 0 ? 1 : 0);
            C.due("choir \"" + ahead + n + behind + "\" told", n, read.applyAsInt(x));
        }
        // ways have a fault of their own for the first place told again, which waysOfTwoPlaces tries
        if (least > 0 && !ahead.contains("way ")) fault(ahead + (least - 1) + behind, ahead.length(), 1);
        fault(ahead + (most + 1) + behind, ahead.length(), 1);
        fault(ahead + "99999" + behind, ahead.length(), 1);
        fault(ahead + "-1" + behind, ahead.length(), 0);
        fault(ahead + "x" + behind, ahead.length(), 0);
        fault(ahead, ahead.length(), 0);
    }

    /** "NUMBER (1 to 5 digits, as far as digits go on)"; "1 a NUMBER of more digits" */
    private static void digits() {
        good("choir 00040 00024;boy 00099 00020 00009", 1);
        good("choir 0001 024", 0);
        fault("choir 000040 0", 6, 1);
        fault("choir 1 000024", 8, 1);
        fault("choir 1 0;snow 000000", 15, 1);
        fault("choir 100000 0", 6, 1);
        // 2^32 + 1 and 2^64 + 1 would be 1, if they went round
        fault("choir 4294967297 0", 6, 1);
        fault("choir 18446744073709551617 0", 6, 1);
        fault("choir " + "1".repeat(300) + " 0", 6, 1);
        fault("choir 140", 6, 1);
        fault("choir 14", 8, 0);
        fault("choir 1 4x", 9, 0);
        fault("choir 1 0;boy 1 0 0 0", 20, 0);
        fault("choir 1 0;canon 20 0 0", 21, 0);
        fault("choir 1 0;snow 0 0", 17, 0);
    }

    /** "two BOYS that were told", "themselves, too" */
    private static void likesOfTwoBoys() {
        for (int one = 0; one < 4; one++) {
            for (int other = 0; other < 4; other++) {
                String text = TWO_BOYS + "likes " + one + " " + other + " 5";
                if (one > 1) fault(text, TWO_BOYS.length() + 6, 1);
                else if (other > 1) fault(text, TWO_BOYS.length() + 8, 1);
                else C.due(text, 5, Checks.of(text).likes(one, other));
            }
        }
        fault(ONE + "likes 0 0 1;boy 1 0 0", 16, 1);
        fault(ONE + "boy 1 0 0;likes 0 1 1;boy 1 0 0", 28, 1);
        good(ONE + "boy 1 0 0;boy 1 0 0;likes 0 1 1", 2);
        good(ONE + "boy 1 0 0;".repeat(6) + "likes 5 5 1", 6);
        fault(ONE + "boy 1 0 0;".repeat(6) + "likes 5 6 1", 78, 1);
    }

    /** "of the same two the last told, 0 without" */
    private static void likesLastTold() {
        BoyBishop x = Checks.of(TWO_BOYS + "likes 0 1 9;likes 0 1 4;likes 1 1 3;likes 1 1 20;likes 1 0 2;likes 1 0 0");
        C.due("the last, though less", 4, x.likes(0, 1));
        C.due("the last, though more", 20, x.likes(1, 1));
        C.due("the last, though 0", 0, x.likes(1, 0));
        C.due("without", 0, x.likes(0, 0));
        x = Checks.of(TWO_BOYS + "likes 0 1 9");
        C.due("one way round alone", 0, x.likes(1, 0));
    }

    /** "two PLACES: 0, the church, or a FARM that was told, by its number and 1"; "of way the second PLACE, if it is the first" */
    private static void waysOfTwoPlaces() {
        int at = TWO_FARMS.length() + 4;
        for (int one = 0; one < 5; one++) {
            for (int other = 0; other < 5; other++) {
                String text = TWO_FARMS + "way " + one + " " + other + " 5";
                if (one > 2) fault(text, at, 1);
                else if (other > 2 || other == one) fault(text, at + 2, 1);
                else good(text, 0);
            }
        }
        fault(TWO_FARMS + "way 1 1 0", at + 2, 1);
        fault(TWO_FARMS + "way 1 1", at + 2, 1);
        fault(TWO_FARMS + "way 1 00001 5", at + 2, 1);
        fault(TWO_FARMS + "way 3 3 5", at, 1);
        fault(ONE + "way 0 0 5", 16, 1);
        fault(ONE + "way 0 1 5;farm 1 0", 16, 1);
        fault(ONE + "farm 1 0;way 0 2 5;farm 1 0", 25, 1);
        good(ONE + "farm 0 0;".repeat(6) + "way 5 6 1", 0);
        fault(ONE + "farm 0 0;".repeat(6) + "way 6 7 1", 70, 1);
    }

    /** "of the same two, either way round, the last told" */
    private static void waysLastTold() {
        C.due("the last, though more", 9, Checks.of(ONE + "farm 1 0;way 0 1 4;way 0 1 9").farm(0, 3));
        C.due("the last, though less", 4, Checks.of(ONE + "farm 1 0;way 0 1 9;way 0 1 4").farm(0, 3));
        C.due("the last, the other way round", 9, Checks.of(ONE + "farm 1 0;way 0 1 4;way 1 0 9").farm(0, 3));
        C.due("the last, the first way round", 9, Checks.of(ONE + "farm 1 0;way 1 0 4;way 0 1 9").farm(0, 3));
        C.due("of farms, the other way round", 10, Checks.of(TWO_FARMS + "way 0 1 1;way 1 2 1;way 2 1 9").farm(1, 3));
    }

    /** "HOURS from the church by the shortest ways (NONE: no way)" */
    private static void shortestWays() {
        BoyBishop x = Checks.of(TWO_FARMS + "way 0 1 3;way 1 2 4;way 0 2 8");
        C.due("by another farm", 7, x.farm(1, 3));
        x = Checks.of(TWO_FARMS + "way 0 1 3;way 1 2 4;way 0 2 7");
        C.due("as long", 7, x.farm(1, 3));
        x = Checks.of(TWO_FARMS + "way 0 1 3;way 1 2 4;way 0 2 6");
        C.due("straight on", 6, x.farm(1, 3));
        x = Checks.of(TWO_FARMS + "way 1 2 4");
        C.due("no way from the church", -1, x.farm(0, 3));
        C.due("nor to the other", -1, x.farm(1, 3));
        x = Checks.of(ONE + "farm 0 0;".repeat(6) + "way 0 4 12;way 4 2 12;way 2 6 12;way 6 1 12;way 1 5 12;way 5 3 12");
        int[] hours = {48, 24, 72, 12, 60, 36};
        for (int farm = 0; farm < 6; farm++) C.due("the longest chain: " + farm, hours[farm], x.farm(farm, 3));
    }

    /** "a DAY, 0 to 60; told already: nothing new" */
    private static void snowToldTwice() {
        BoyBishop x = Checks.of(ONE + "snow 1;snow 1;snow 59;snow 60;snow 1");
        for (int day = 0; day <= 62; day++) {
            C.due("snow on day " + day, day == 1 || day == 59 || day == 60 ? 1 : 0, x.count(13));
            x.day();
        }
    }

    /** "BOYS 0 to 5, CANONS 0 to 3, FARMS 0 to 5, in the order told"; "a seventh BOY or FARM, a fifth CANON" */
    private static void sixBoysFourCanonsSixFarms() {
        BoyBishop x = Checks.of("choir 1 0;boy 11 0 0;canon 31 0;farm 21 0;boy 12 0 0;boy 13 0 0;canon 32 0;farm 22 0;farm 23 0;"
            + "boy 14 0 0;canon 33 0;farm 24 0;boy 15 0 0;farm 25 0;canon 34 0;boy 16 0 0;farm 26 0");
        C.due("boys", 6, x.count(2));
        C.due("canons", 4, x.count(3));
        C.due("farms", 6, x.count(4));
        for (int i = 0; i < 6; i++) {
            C.due("boy " + i, 11 + i, x.boy(i, 0));
            C.due("canon " + i, i < 4 ? 31 + i : -2, x.canon(i, 0));
            C.due("farm " + i, 21 + i, x.farm(i, 0));
        }
        C.due("boy 6", -1, x.boy(6, 0));
        C.due("farm 6", -2, x.farm(6, 0));
        good("choir 1 0" + ";boy 1 0 0".repeat(6), 6);
        fault("choir 1 0" + ";boy 1 0 0".repeat(7), 70, 4);
        good("choir 1 0" + ";canon 20 0".repeat(4), 0);
        fault("choir 1 0" + ";canon 20 0".repeat(5), 54, 4);
        good("choir 1 0" + ";farm 0 0".repeat(6), 0);
        fault("choir 1 0" + ";farm 0 0".repeat(7), 64, 4);
        fault("choir 1 0" + ";boy 1 0 0".repeat(6) + ";snow 0;farm 0 0;boy 1 0 0", 86, 4);
    }

    /** "It is DAY 0; there is no BISHOP, all FARMS have laid by GIFT, the CHEST is empty, all CANONS live." */
    private static void theBegin() {
        BoyBishop x = Checks.of("choir 40 24;boy 9 20 0;canon 99 9;canon 20 9;farm 60 0;farm 0 9");
        C.due("day", 0, x.count(7));
        C.due("no bishop", -1, x.count(8));
        C.due("no first day", -1, x.count(9));
        C.due("the chest", 0, x.count(10));
        C.due("what went to the boys", 0, x.count(11));
        C.due("not out", 0, x.count(12));
        C.due("free prebends", 0, x.count(14));
        C.due("broken voices", 0, x.count(15));
        C.due("laid by", 60, x.farm(0, 2));
        C.due("laid by of a gift of 0", 0, x.farm(1, 2));
        C.due("the oldest lives", 99, x.canon(0, 0));
        C.due("and was given nothing", -1, x.canon(0, 3));
        C.due("was bishop", 0, x.boy(0, 3));
    }

    /** "or the end (behind the last byte)": each text that is a begin of a good one */
    private static void textCutOff() {
        String text = "choir 1 0;boy 9 5 2";
        int[] places = {0, 0, 0, 0, 0, 5, 6, 7, 8, -1, 10, 10, 10, 13, 14, 15, 16, 17, 18, -1};
        for (int n = 0; n <= text.length(); n++) {
            if (places[n] < 0) good(text.substring(0, n), n > 9 ? 1 : 0);
            else fault(text.substring(0, n), places[n], 0);
        }
        fault("     ", 5, 0);
        fault("choir 1 0;   ", 13, 0);
    }

    /** "Blanks (32) stand between as one likes" */
    private static void blanks() {
        good("   choir   1   0   ;   boy   1   0   0   ", 1);
        good("choir1 0;boy1 0 0;likes0 0 0;canon20 0;farm0 0;way0 1 1;snow0", 1);
        fault("choir 1 0;b oy 1 0 0", 10, 0);
        fault("cho ir 1 0", 0, 0);
        fault("choir 1 0;snow 6 0", 17, 0);
    }

    /** "0 a byte or WORD that can't stand there" */
    private static void bytesThatCannotStand() {
        for (int b = 0; b < 256; b++) {
            if (b != ' ' && b != ';') {
                String text = "choir 1 0" + (char) b;
                if (b >= '0' && b <= '9') good(text, 0);
                else fault(text, 9, 0);
            }
            if (b != ' ') fault((char) b + "choir 1 0", 0, 0);
        }
        for (String word : new String[] {"choi", "choirr", "boya", "boyz", "boys", "bo", "like", "canons", "farms", "ways", "snows", "vote", "x"}) {
            fault("choir 1 0; " + word + " 1 0 0", 11, 0);
        }
        fault("choir 1 0:boy 1 0 0", 9, 0);
        fault("choir 1,0", 7, 0);
        fault("choir 1 0;Boy 1 0 0", 10, 0);
        fault("choir 1 0;boY 1 0 0", 10, 0);
    }

    /** "FAULTS, the first along the text" */
    private static void theFirstFaultAlongTheText() {
        fault("choir 0 25", 6, 1);
        fault("choir 1 25;boys", 8, 1);
        fault("choir 1 x;boy 0 0 0", 8, 0);
        fault("choir 1 0;boy 0 21 10", 14, 1);
        fault("choir 1 0;choir 0 0", 10, 4);
        fault("choir 1 0;likes 0 0 21", 16, 1);
        fault("choir 1 0" + ";snow 0".repeat(38) + ";snow 61;snow 0;", 281, 1);
        fault("boy 0 0 0", 0, 4);
    }

    /** "Of one place the least" */
    private static void theLeastFaultOfAPlace() {
        fault("choir 1 0" + ";snow 0".repeat(39) + ";x", 283, 0);
        fault("choir 1 0" + ";snow 0".repeat(39) + ";;", 283, 0);
        fault("choir 1 0" + ";snow 0".repeat(39) + ";7", 283, 0);
        fault("choir 1 0" + ";snow 0".repeat(39) + ";", 283, 0);
        fault("vote 1;choir 1 0", 0, 0);
    }

    /** "-2 - its FAULT, and all stays": the tape, too */
    private static void aFaultLeavesAll() {
        BoyBishop x = Checks.days(Checks.of(Checks.CHOIR), 2);
        x.note(1, 0);
        Checks.say(x, "choir 9 9;boy 1 2 3;boy 1 2 10");
        C.due("a fault", Checks.fault(28, 1), x.choir());
        C.due("the tape", 30, x.count(19));
        C.due("the day", 2, x.count(7));
        C.due("the reign", 3, x.count(0));
        C.due("the boys", 3, x.count(2));
        C.due("his voice", 5, x.boy(0, 0));
        C.due("the note", 1, x.count(16));
        C.due("the same fault", Checks.fault(28, 1), x.choir());
        x.end(29);
        C.due("what is left of it is a choir", 2, x.choir());
        C.due("its reign", 9, x.count(0));
        C.due("its fade", 1, x.boy(1, 2));
        C.due("a fault behind all kinds of clauses", Checks.fault(91, 0), Checks.choir(x,
            "choir 9 9;boy 1 2 3;boy 1 2 3;likes 0 1 9;likes 1 1 9;canon 99 9;farm 9 9;way 0 1 1;snow 0;!"));
        C.due("leaves nothing to the next text", 2, Checks.choir(x, "choir 9 9;boy 1 2 3;boy 1 2 3;farm 1 1"));
        C.due("no likes", 0, x.likes(0, 1) + x.likes(1, 1));
        C.due("no canon", 0, x.count(3));
        C.due("no way", -1, x.farm(0, 3));
        C.due("no snow", 0, x.count(13));
    }

    /** "The TAPE, which is empty then, is the CHOIR in place of the one there was (no NOTES, nothing to be UNDONE; the RULE IN FORCE and x stay)" */
    private static void aChoirInPlaceOfTheOneThereWas() {
        BoyBishop x = Checks.days(Checks.of(Checks.CHOIR, "vote voice"), 3);
        x.seed(8);
        x.note(0, 0);
        x.image(1);
        C.due("a choir without boys", 0, Checks.choir(x, "choir 2 3"));
        int[] due = {2, 3, 0, 0, 0, 1, 0, 0, -1, -1, 0, 0, 0, 0, 0, 0, 0, 0, 8, 0};
        for (int what = 0; what < 20; what++) C.due("count(" + what + ")", due[what], x.count(what));
        C.due("no boy", -1, x.boy(0, 0));
        C.due("nothing to be undone", -1, x.undo());
        C.due("the image stays", 3, x.back(1));
        C.due("and its choir", 3, x.count(2));
    }
}
