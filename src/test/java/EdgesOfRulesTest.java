/** The edges that the terms name of a rule's text and of what it reckons, and those of promises 5 and 6: each on both its sides. */
public final class EdgesOfRulesTest {
    private static final Checks C = new Checks("EdgesOfRulesTest");
    private static final String TWO = "choir 1 0;boy 9 0 0;boy 9 0 0";

    private EdgesOfRulesTest() { }

    public static void main(String[] args) {
        sixRules();
        aFaultIsNoRule();
        rulesStay();
        force();
        textOfFourHundredBytes();
        twelveClauses();
        digits();
        words();
        signs();
        blanks();
        bytesThatCannotStand();
        textCutOff();
        brackets();
        tenDeep();
        elevenDeep();
        sixtyValuesAndFacts();
        sixtyOne();
        theFirstFaultAlongTheText();
        theLeastFaultOfAPlace();
        divisionTowardsZero();
        byZero();
        goesRoundIn64Bits();
        comparing();
        order();
        firstClauseThatHolds();
        wordsAtTheirEdges();
        C.finish();
    }

    private static void good(String text) {
        C.due("rule \"" + text + "\"", 0, Checks.rule(new BoyBishop(), text));
    }

    private static void fault(String text, int place, int kind) {
        C.due("rule \"" + text + "\"", Checks.fault(place, kind), Checks.rule(new BoyBishop(), text));
    }

    /** Boy 1 is voted for if the test holds, nobody if it does not; and by not of it the other way round. */
    private static void holds(String test) {
        C.due(test, 1, Checks.of(TWO, "vote 1 if boy=1 and [" + test + "]").votes(0, 2));
        C.due("not " + test, -1, Checks.of(TWO, "vote 1 if boy=1 and not[" + test + "]").votes(0, 2));
    }

    /** "RULES 0 to 5"; "its number"; "NONE, and nothing happens: there are 6" */
    private static void sixRules() {
        BoyBishop x = Checks.of("choir 1 0;boy 9 0 0;boy 9 0 0");
        for (int i = 0; i < 6; i++) {
            C.due("rules", i, x.count(5));
            C.due("rule " + i, i, Checks.rule(x, "vote " + (i == 5 ? "boy" : "1-boy")));
            C.due("the tape is empty then", 0, x.count(19));
        }
        C.due("none is in force by being told", -1, x.count(6));
        for (String text : new String[] {"vote 1", "vote", "", "choir 1 0"}) {
            C.due("a seventh: \"" + text + "\"", -1, Checks.rule(x, text));
            C.due("the tape stays", text.length(), x.count(19));
            C.due("six", 6, x.count(5));
        }
        x.force(5);
        C.due("the sixth is as it was", 1, x.votes(0, 0));
        C.due("no rule 6", -2, x.force(6));
        C.due("what the tape has is a choir still", 0, x.choir());
    }

    /** "-2 - its FAULT": no rule comes, and nothing says that the tape goes */
    private static void aFaultIsNoRule() {
        BoyBishop x = Checks.of(TWO, "vote boy");
        C.due("a fault", Checks.fault(13, 0), Checks.rule(x, "vote 1;vote 2!"));
        C.due("no rule", 1, x.count(5));
        C.due("none such", -2, x.force(1));
        C.due("the tape", 14, x.count(19));
        x.end(13);
        C.due("what is left of it is a rule", 1, x.rule());
        C.due("that is in force", 0, x.force(1));
        C.due("all for the least", 0, x.votes(1, 2));
        for (int i = 0; i < 20; i++) Checks.rule(x, "vote boy" + "+1".repeat(58) + "!");
        C.due("no fault leaves anything to the next rule", 2, Checks.rule(x, "vote 1+1 if boy=0;vote boy*3"));
        x.force(2);
        C.due("which is as told", 1, x.votes(0, 2));
    }

    /** Promise 4 keeps the rules by another choir, and images have none of them. */
    private static void rulesStay() {
        BoyBishop x = new BoyBishop();
        Checks.rule(x, "vote boy");
        C.due("a rule without a choir", 0, x.force(0) + 1);
        Checks.choir(x, TWO);
        C.due("in force", 1, x.votes(0, 2));
        Checks.choir(x, TWO + ";boy 9 0 0");
        C.due("in force by another choir", 2, x.votes(0, 2));
    }

    /** "A RULE is IN FORCE (NONE: none): which was; -2, and nothing happens, if there is none such." */
    private static void force() {
        BoyBishop x = new BoyBishop();
        C.due("none, of none", -1, x.force(-1));
        C.due("rule 0 of none", -2, x.force(0));
        for (int i = 0; i < 6; i++) Checks.rule(x, "vote " + i);
        C.due("rule 5 of 6", -1, x.force(5));
        for (int bad : new int[] {6, 7, -2, Integer.MAX_VALUE, Integer.MIN_VALUE}) {
            C.due("rule " + bad + " of 6", -2, x.force(bad));
            C.due("nothing happens", 5, x.count(6));
        }
        C.due("the same again", 5, x.force(5));
        C.due("rule 0", 5, x.force(0));
        C.due("none", 0, x.force(-1));
        C.due("none was", -1, x.force(2));
        C.due("rule 2", 2, x.count(6));
    }

    /** "texts likewise": at most 400 bytes */
    private static void textOfFourHundredBytes() {
        good("vote 1" + " ".repeat(394));
        good("vote" + " ".repeat(395) + "1");
        fault("vote" + " ".repeat(395) + "x", 399, 0);
        fault("vote" + " ".repeat(396), 400, 0);
        fault("vote 1" + " ".repeat(393) + ";", 400, 0);
        BoyBishop x = Checks.of(TWO);
        C.due("a long rule", 0, Checks.rule(x, "vote 1 if" + " ".repeat(386) + "boy=1"));
        x.force(0);
        C.due("is read to its end", 1, x.votes(0, 2));
    }

    /** "12 CLAUSES at most"; "4 one CLAUSE too many (at its first byte)" */
    private static void twelveClauses() {
        good("vote 1" + ";vote 1".repeat(10));
        good("vote 1" + ";vote 1".repeat(11));
        fault("vote 1" + ";vote 1".repeat(12), 84, 4);
        fault("vote 1" + ";vote 1".repeat(11) + ";  vote", 86, 4);
        fault("vote 1" + ";vote 1".repeat(11) + ";vote x", 84, 4);
        C.due("the twelfth holds", 1, Checks.of(TWO, "vote 1 if 1=2;".repeat(11) + "vote boy").votes(0, 2));
    }

    /** "NUMBER (1 to 5 digits, as far as digits go on)"; "1 a NUMBER of more digits" */
    private static void digits() {
        good("vote 0");
        good("vote 99999");
        good("vote 00000");
        fault("vote 100000", 5, 1);
        fault("vote 000000", 5, 1);
        fault("vote 4294967297", 5, 1);
        fault("vote 1+123456", 7, 1);
        fault("vote 1 if 123456=1", 10, 1);
        fault("vote 1 if 1=123456", 12, 1);
        fault("vote 1 2", 7, 0);
        holds("99999=99998+1");
        holds("00012=12");
    }

    /** "WORDS (small letters, as far as these go on)" */
    private static void words() {
        for (String word : new String[] {"voter", "boy", "voice", "share", "likes", "fade", "was", "same", "day", "chest", "boys"}) {
            good("vote " + word);
            good("vote1 if" + " " + word + "=" + word);
            fault("vote " + word + "x", 5, 0);
            fault("vote " + word + "a", 5, 0);
            fault("vote " + word + "z", 5, 0);
            fault("vote " + word + "`", 5 + word.length(), 0);
            fault("vote " + word + "{", 5 + word.length(), 0);
            if (!word.equals("boys")) fault("vote " + word.substring(0, word.length() - 1), 5, 0);
            fault("vote " + word.toUpperCase(), 5, 0);
            fault("vote " + word + "1", 5 + word.length(), 0);
            fault("vote 1" + word, 6, 0);
            fault("vote " + word + " " + word, 6 + word.length(), 0);
        }
        for (String word : new String[] {"vote", "if", "or", "and", "not", "choir", "canon", "farm", "bishop"}) fault("vote " + word, 5, 0);
        fault("votevoice", 0, 0);
        fault("votez 1", 0, 0);
        fault("vote 1 vote 2", 7, 0);
        fault("vote 1 if 1=1 vote 2", 14, 0);
        fault("vote 1 ifvoice=1", 7, 0);
        fault("vote 1 if 1=1 andvoice=1", 14, 0);
        fault("vote 1 if notvoice=1", 10, 0);
        good("vote 1 if 1=1and 1=1or 1=1");
        good("vote1if1=1");
    }

    /** "SIGN one of < <= = >= >" */
    private static void signs() {
        for (String sign : new String[] {"<", "<=", "=", ">=", ">"}) {
            good("vote 1 if 1" + sign + "1");
            good("vote 1 if 1 " + sign + " 1");
            fault("vote 1 if 1" + sign, 11 + sign.length(), 0);
            fault("vote 1 if " + sign + "1", 10, 0);
            fault("vote 1 if 1" + sign + "1" + sign + "1", 12 + sign.length(), 0);
        }
        fault("vote 1 if 1< =1", 13, 0);
        fault("vote 1 if 1> =1", 13, 0);
        fault("vote 1 if 1=<1", 12, 0);
        fault("vote 1 if 1=>1", 12, 0);
        fault("vote 1 if 1==1", 12, 0);
        fault("vote 1 if 1<>1", 12, 0);
        fault("vote 1 if 1!=1", 11, 0);
        fault("vote 1 if 1<==1", 13, 0);
        fault("vote 1<2", 6, 0);
    }

    /** "Blanks (32) stand between as one likes." */
    private static void blanks() {
        good("   vote   1   +   voice   *   2   if   not   [   1   <   2   ]   and   3   >=   2   ;   vote   1   ");
        good("vote1+voice*2if not[1<2]and 3>=2;vote1");
        fault("vo te 1", 0, 0);
        fault("vote vo ice", 5, 0);
        fault("vote\t1", 4, 0);
        fault("vote 1\n", 6, 0);
        fault("vote 1\u00a0", 6, 0);
    }

    /** "0 a byte or WORD that can't stand there" */
    private static void bytesThatCannotStand() {
        for (int b = 0; b < 256; b++) {
            char sign = (char) b;
            boolean digit = b >= '0' && b <= '9';
            boolean step = "+-*/%;".indexOf(sign) >= 0;
            if (b != ' ') {
                fault(sign + "vote 1", 0, 0);
                if (!digit && !step) fault("vote 1 " + sign, 7, 0);
                if (step) fault("vote 1 " + sign, 8, 0);
                if (digit) good("vote " + sign);
                else fault("vote " + sign, 5, 0);
                if (digit || b == '[') fault("vote 1 if " + sign, 11, 0);
                else fault("vote 1 if " + sign, 10, 0);
                if (b == ']') good("vote 1 if [1=1 " + sign);
                else fault("vote 1 if [1=1 " + sign, "+-*/%".indexOf(sign) >= 0 ? 16 : 15, 0);
            }
        }
    }

    /** "or the end (behind the last byte)": each text that is a begin of a good one */
    private static void textCutOff() {
        String text = "vote 7+voice if not [day<=5];vote 1";
        int[] places = {0, 0, 0, 0, 4, 5, -1, 7, 7, 7, 7, 7, -1, -1, 13, 15, 16, 16, 16, 19, 20, 21, 21, 21, 24, 25, 26, 27, -1, 29, 29, 29, 29, 33, 34, -1};
        for (int n = 0; n <= text.length(); n++) {
            if (places[n] < 0) good(text.substring(0, n));
            else fault(text.substring(0, n), places[n], 0);
        }
        fault("   ", 3, 0);
        fault("vote 1;  ", 9, 0);
    }

    /** "[ TEST ] (these brackets are signs)" */
    private static void brackets() {
        good("vote 1 if [1=1]");
        good("vote 1 if [1=1 or 1=2] and [1=1]");
        fault("vote 1 if []", 11, 0);
        fault("vote 1 if [1=1", 14, 0);
        fault("vote 1 if 1=1]", 13, 0);
        fault("vote 1 if [1=1]]", 15, 0);
        fault("vote 1 if [1=1;vote 1", 14, 0);
        fault("vote 1 if [1]=1", 12, 0);
        fault("vote 1 if (1=1)", 10, 0);
        fault("vote [1] if 1=1", 5, 0);
        fault("vote 1 [if 1=1]", 7, 0);
    }

    /** "[ and not lie within one another 10 deep at most" */
    private static void tenDeep() {
        for (int mask = 0; mask < 1 << 10; mask += 33) {
            String text = nest(10, mask, "1=1");
            good("vote 1 if " + text);
            good("vote 1 if " + text + " and " + text);
        }
        good("vote 1 if " + "[".repeat(10) + "1=1" + "]".repeat(10) + " or " + "not ".repeat(10) + "1=1");
        good("vote 1 if " + "[1=1] and ".repeat(11) + "1=1");
        good("vote 1 if not 1=1" + " and not 1=1".repeat(11));
        good("vote 1 if " + "[".repeat(10) + "1=1" + "]".repeat(10) + ";vote 1 if " + "[".repeat(10) + "1=1" + "]".repeat(10));
        good("vote 1 if " + "[".repeat(9) + "[1=1] and [1=1]" + "]".repeat(9));
        holds("not ".repeat(8) + "1=1");
        holds("not ".repeat(7) + "1=2");
    }

    /** "2 too deep (at the sign that opens, or the word not)" */
    private static void elevenDeep() {
        fault("vote 1 if " + "[".repeat(11) + "1=1" + "]".repeat(11), 20, 2);
        fault("vote 1 if " + "not ".repeat(11) + "1=1", 50, 2);
        fault("vote 1 if " + "[".repeat(10) + "  not 1=1" + "]".repeat(10), 22, 2);
        fault("vote 1 if " + "not ".repeat(10) + " [1=1]", 51, 2);
        fault("vote 1 if " + "[".repeat(10) + "1=1 and [1=1]" + "]".repeat(10), 28, 2);
        fault("vote 1 if " + "[".repeat(10) + "1=1 or not 1=1" + "]".repeat(10), 27, 2);
        fault("vote 1 if " + "[".repeat(10) + "1=1" + "]".repeat(10) + " and " + "[".repeat(11), 48, 2);
        fault("vote 1;vote 1 if " + "[".repeat(11), 27, 2);
        fault("vote 1 if " + "[".repeat(11), 20, 2);
        fault("vote 1 if " + "not ".repeat(10) + "not", 50, 2);
        fault("vote 1 if " + "not ".repeat(10) + "nots", 50, 0);
        fault("vote 1 if " + "[".repeat(10), 20, 0);
    }

    private static String nest(int depth, int mask, String fact) {
        if (depth == 0) return fact;
        String inside = nest(depth - 1, mask >> 1, fact);
        return (mask & 1) == 0 ? "[" + inside + "]" : "not " + inside;
    }

    /** "at most 60 VALUES (of SUMS) and FACTS made of a SIGN, together" */
    private static void sixtyValuesAndFacts() {
        good("vote 1" + "+1".repeat(58));
        good("vote 1" + "+1".repeat(59));
        good("vote 1" + "*day".repeat(59));
        good("vote 1" + "+1".repeat(56) + " if 1=1");
        good("vote 1" + "+1".repeat(50) + " if 1=1 and 1=1 or not [1=1]");
        good("vote 1+1+1 if " + "1=1 or ".repeat(18) + "1=1");
        good("vote 1" + ";vote 1".repeat(11));
        good("vote 1+1 if 1=1" + ";vote 1+1 if 1=1".repeat(11));
    }

    /** "3 one VALUE or FACT too many (at its first byte; of a FACT at its SIGN)" */
    private static void sixtyOne() {
        fault("vote 1" + "+1".repeat(60), 125, 3);
        fault("vote 1" + "+1".repeat(59) + "+  voice", 127, 3);
        fault("vote 1" + "+1".repeat(59) + " if day=1", 128, 3);
        fault("vote 1" + "+1".repeat(58) + " if 1 >= 1", 128, 3);
        fault("vote 1" + "+1".repeat(57) + " if 1 >= voice", 129, 3);
        fault("vote 1" + "+1".repeat(56) + " if 1=1 and 1=1", 130, 3);
        fault("vote 1+1+1+1 if " + "1=1 or ".repeat(18) + "1=1", 144, 3);
        fault("vote 1+1 if 1=1" + ";vote 1+1 if 1=1".repeat(10) + ";vote 1+1+1 if 1=1", 192, 3);
        fault("vote 1" + "+1".repeat(59) + ";vote 1", 130, 3);
        fault("vote 1" + "+1".repeat(60) + "!", 125, 3);
        fault("vote 1" + "+1".repeat(59) + ";", 125, 0);
        fault("vote 1" + "+1".repeat(59) + "+", 125, 0);
    }

    /** "FAULTS, the first along the text" */
    private static void theFirstFaultAlongTheText() {
        fault("vote 123456+x", 5, 1);
        fault("vote x+123456", 5, 0);
        fault("vote 1 if 1=1 and " + "[".repeat(11) + "x", 28, 2);
        fault("vote 1 if 1=x and " + "[".repeat(11) + "x", 12, 0);
        fault("vote 1" + "+1".repeat(60) + ";vote 123456", 125, 3);
        fault("vote 1" + ";vote 1".repeat(12) + "+123456", 84, 4);
        fault("vote 1" + ";vote 1".repeat(11) + "+123456;vote 1", 84, 1);
    }

    /** "Of one place the least" */
    private static void theLeastFaultOfAPlace() {
        fault("vote 1" + "+1".repeat(59) + "+123456", 125, 1);
        fault("vote 1" + "+1".repeat(59) + "+x", 125, 0);
        fault("vote 1" + "+1".repeat(59) + "+]", 125, 0);
        fault("vote 1" + "+1".repeat(58) + " if 1!1", 127, 0);
        fault("vote 1" + "+1".repeat(58) + " if 1", 127, 0);
        fault("vote 1" + ";vote 1".repeat(11) + ";votes 1", 84, 0);
        fault("vote 1" + ";vote 1".repeat(11) + ";", 84, 0);
        fault("vote 1" + ";vote 1".repeat(11) + ";;", 84, 0);
    }

    /** "/ is towards 0, % its rest" */
    private static void divisionTowardsZero() {
        holds("7/2=3");
        holds("8/2=4");
        holds("1/2=0");
        // a value is never below 0, but values that go round may be: these are -1 and -7
        String minusOne = "9*961*311*1051*2351*5479*79531";
        String minusSeven = "27*11*739*3547*5717*13597*35969";
        holds(minusOne + "+1=0");
        holds(minusSeven + "+7=0");
        holds(minusOne + "/2=0");
        holds(minusOne + "%2=0-1");
        holds(minusSeven + "/2=0-3");
        holds(minusSeven + "%2=0-1");
        holds(minusSeven + "/7=0-1");
        holds(minusSeven + "%7=0");
        holds(minusSeven + "/8=0");
        holds(minusSeven + "%8=0-7");
        holds(minusSeven + "%4=0-3");
        holds("1-7/2=0-2");
        holds("7%4=3");
        holds("8%4=0");
        holds("3%4=3");
        String least = "65536*32768*65536*65536";
        holds(least + "/10+92233*10000*10000*10000*10+72036*10000*10000+85477*1000+580=0");
        holds(least + "%10=0-8");
        holds(least + "/3*3+" + least + "%3=" + least);
        holds(least + "%3<0");
    }

    /** "both 0 by 0" */
    private static void byZero() {
        for (String by : new String[] {"0", "00000", "day", "chest", "was"}) {
            holds("5/" + by + "=0");
            holds("5%" + by + "=0");
            holds("0/" + by + "=0");
            holds("0%" + by + "=0");
            holds("7+5/" + by + "*3=7");
        }
        holds("5/1=5");
        holds("5%1=0");
    }

    /** "all goes round in 64 bits" */
    private static void goesRoundIn64Bits() {
        String least = "65536*32768*65536*65536";
        holds(least + "<0");
        holds(least + "-1>0");
        holds(least + "-1+1=" + least);
        holds(least + "+" + least + "=0");
        holds(least + "*2=0");
        holds(least + "*3=" + least);
        holds("65536*65536*65536*65536=0");
        holds("65536*65536*65536*32767>0");
        holds("65535*65536*65536*65536+65535*65536*65536+65535*65536+65535=0-1");
        holds(least + "<" + least + "-1");
        C.due("the greatest is wanted", 1, Checks.of(TWO, "vote 1 if boy=0;vote " + least + "-1").votes(0, 2));
        C.due("one more is below 0", 0, Checks.of(TWO, "vote 1 if boy=0;vote " + least).votes(0, 2));
    }

    private static void comparing() {
        for (int a = 0; a < 3; a++) {
            for (int b = 0; b < 3; b++) {
                holds(a < b ? a + "<" + b : "not " + a + "<" + b);
                holds(a <= b ? a + "<=" + b : "not " + a + "<=" + b);
                holds(a == b ? a + "=" + b : "not " + a + "=" + b);
                holds(a >= b ? a + ">=" + b : "not " + a + ">=" + b);
                holds(a > b ? a + ">" + b : "not " + a + ">" + b);
            }
        }
    }

    /** "TEST: PART { or PART }. PART: FACT { and FACT }."; "SUM: TERM { (+ or -) TERM }." */
    private static void order() {
        String yes = "1=1";
        String no = "1=2";
        for (int bits = 0; bits < 8; bits++) {
            boolean a = (bits & 1) > 0, b = (bits & 2) > 0, c = (bits & 4) > 0;
            String p = a ? yes : no, q = b ? yes : no, r = c ? yes : no;
            either(p + " or " + q + " and " + r, a || b && c);
            either(p + " and " + q + " or " + r, a && b || c);
            either("[" + p + " or " + q + "] and " + r, (a || b) && c);
            either("not " + p + " or " + q + " and not " + r, !a || b && !c);
            either("not [" + p + " or " + q + "] and " + r, !(a || b) && c);
            either("not " + p + " and " + q, !a && b);
        }
        holds("10-3-2=5");
        holds("10-3+2=9");
        holds("100/10*10=100");
        holds("100*10/10=100");
        holds("7%5*2=4");
        holds("2+3*4-6/2=11");
        holds("2*3%4=2");
    }

    private static void either(String test, boolean so) {
        holds(so ? test : "not[" + test + "]");
    }

    /** "the RULE IN FORCE's first CLAUSE without a TEST, or whose TEST holds (0 without)" */
    private static void firstClauseThatHolds() {
        C.due("the first without a test", 1, Checks.of(TWO, "vote boy;vote 9-boy").votes(0, 2));
        C.due("the first whose test holds", 1, Checks.of(TWO, "vote 9-boy if 1=2;vote boy if 1=1;vote 9-boy").votes(0, 2));
        C.due("the last, without a test", 1, Checks.of(TWO, "vote 9 if 1=2;vote boy").votes(0, 2));
        C.due("no test holds", -1, Checks.of(TWO, "vote 9 if 1=2;vote 9 if 2=3").votes(0, 2));
        C.due("0 hides what is behind it", -1, Checks.of(TWO, "vote 0;vote 9").votes(0, 2));
    }

    /** Each word is what it names of the boy who votes and the one who is voted for. */
    private static void wordsAtTheirEdges() {
        String choir = "choir 1 8;boy 99 20 0;boy 1 0 9;boy 50 0 0;likes 0 1 20;likes 1 0 1;likes 2 2 7;farm 60 0;way 0 1 4";
        word(choir, "voice=99 and share=20 and fade=0", 0, 0, 0, 0);
        word(choir, "voice=1 and share=0 and fade=9", 1, 1, 1, 1);
        word(choir, "likes=20", 1, 1, -1, -1);
        word(choir, "likes=1", 0, -1, 0, -1);
        word(choir, "likes=7", 2, -1, -1, 2);
        word(choir, "likes=0 and same=1", 0, 0, 1, -1);
        word(choir, "same=0 and voter=2", 0, -1, -1, 0);
        word(choir, "same=1", 0, 0, 1, 2);
        word(choir, "voter=boy", 0, 0, 1, 2);
        word(choir, "boys=3 and day=0 and chest=0 and was=0 and boy=2", 2, 2, 2, 2);
        BoyBishop x = Checks.of(choir, "vote 1 if boys=3 and boy=2;vote 1 if boys=2 and boy=0");
        x.breaks(1);
        C.due("boys whose voices are not broken alone", 0, x.votes(0, 2));
        x = Checks.of("choir 2 8;boy 99 0 0;boy 9 0 0;farm 60 0;way 0 1 4", "vote 1 if was=1;vote 2 if day=2 and boy=1;vote 1 if day=0 and boy=0", "vote chest-59 if boy=1");
        x.force(0);
        C.due("bishop", 0, x.day());
        x.visit(0);
        C.due("none", -1, x.day());
        C.due("who was bishop has less", 1, x.votes(0, 2));
        x.force(1);
        C.due("the chest", 60, x.count(10));
        C.due("the chest is 60", 1, x.votes(0, 2));
    }

    private static void word(String choir, String test, int chosen, int... votes) {
        BoyBishop x = Checks.of(choir, "vote 1 if " + test);
        C.due(test + ": chosen", chosen, x.votes(0, 2));
        for (int boy = 0; boy < votes.length; boy++) C.due(test + ": vote of " + boy, votes[boy], x.votes(boy, 0));
    }
}
