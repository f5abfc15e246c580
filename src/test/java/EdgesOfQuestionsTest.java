/** The edges of part III, what is asked, and those of promises 17 to 34: each on both its sides. */
public final class EdgesOfQuestionsTest {
    private static final Checks C = new Checks("EdgesOfQuestionsTest");
    private static final int MOST = Integer.MAX_VALUE;
    private static final int LEAST = Integer.MIN_VALUE;
    private static final String SIX = "choir 9 0" + ";boy 9 0 0".repeat(6);

    private EdgesOfQuestionsTest() { }

    public static void main(String[] args) {
        aheadFromNoneToSixty();
        aheadOfWhom();
        votesOfWhom();
        pointsOfSeveral();
        eachOfTwo();
        lastOfSeveral();
        allBrokenByAllThree();
        methodsThatAreNone();
        leastFromNoneToTwenty();
        winOverTheFewest();
        winOverTheLeastSet();
        restsOfTwo();
        roundInHours();
        roundBySnow();
        roundOfSeveral();
        fallsInDays();
        likelyUpwards();
        bestOfSeveral();
        daysTillDead();
        tenNotes();
        notesOfDaysAndBoys();
        ruledByNone();
        lookOfSeveral();
        lookTheLastDay();
        seeds();
        drawsGoRound();
        wintersBelowP();
        wintersRefused();
        wintersAllTogether();
        allThatThereMayBe();
        counts();
        images();
        C.finish();
    }

    /** "AHEAD n DAYS (0 to 60)" */
    private static void aheadFromNoneToSixty() {
        BoyBishop x = Checks.of("choir 40 2;boy 99 1 1;boy 99 0 9;farm 60 1;way 0 1 1");
        x.day();
        x.visit(0);
        C.due("who now", 0, x.ahead(0, 0, 0));
        C.due("voice now", 98, x.ahead(0, 0, 1));
        C.due("laid by now", 0, x.ahead(0, 0, 2));
        C.due("who in 38", 0, x.ahead(0, 38, 0));
        C.due("who in 39", -1, x.ahead(0, 39, 0));
        C.due("who in 40", 0, x.ahead(0, 40, 0));
        C.due("voice in 9 of one who fades fast", 9, x.ahead(1, 9, 1));
        C.due("voice in 10", 0, x.ahead(1, 10, 1));
        C.due("voice in 60", 38, x.ahead(0, 60, 1));
        C.due("laid by in 59", 59, x.ahead(0, 59, 2));
        C.due("laid by in 60", 60, x.ahead(0, 60, 2));
        for (int n : new int[] {-1, 61, MOST, LEAST}) {
            for (int what = 0; what < 3; what++) C.due("ahead(0, " + n + ", " + what + ")", -2, x.ahead(0, n, what));
        }
        C.due("it is day 1 still", 1, x.count(7));
    }

    /** "(number is not asked; NONE: nobody)"; "-2 without these, or a CHOIR" */
    private static void aheadOfWhom() {
        BoyBishop x = Checks.of("choir 40 2;boy 99 1 1;boy 9 0 0;farm 60 1;farm 1 1;farm 2 2");
        for (int number : new int[] {-1, 0, 6, MOST, LEAST}) C.due("who, of " + number, 0, x.ahead(number, 1, 0));
        for (int number : new int[] {-1, 2, 6, MOST, LEAST}) C.due("voice of " + number, -2, x.ahead(number, 1, 1));
        for (int number : new int[] {-1, 3, 6, MOST, LEAST}) C.due("laid by of " + number, -2, x.ahead(number, 1, 2));
        for (int what : new int[] {-1, 3, MOST, LEAST}) C.due("what " + what, -2, x.ahead(0, 1, what));
        C.due("the last boy", 9, x.ahead(1, 1, 1));
        C.due("the last farm", 2, x.ahead(2, 1, 2));
        C.due("a choir of nobody", -1, Checks.of("choir 1 0").ahead(0, 60, 0));
        C.due("without a choir", -2, new BoyBishop().ahead(0, 0, 0));
    }

    /** "-2 without these, or a CHOIR"; "boy is not asked" */
    private static void votesOfWhom() {
        BoyBishop x = Checks.of("choir 9 0;boy 9 0 0;boy 9 1 0");
        for (int boy : new int[] {-1, 2, 6, MOST, LEAST}) {
            C.due("for whom " + boy, -2, x.votes(boy, 0));
            C.due("how many " + boy, -2, x.votes(boy, 1));
            C.due("who is chosen, asked of " + boy, 1, x.votes(boy, 2));
        }
        for (int what : new int[] {-1, 3, MOST, LEAST}) C.due("what " + what, -2, x.votes(0, what));
        C.due("none has 0", 0, x.votes(0, 1));
        C.due("all have 2", 2, x.votes(1, 1));
        x.day();
        C.due("if there was a vote now, though there is a bishop", 1, x.votes(0, 2));
        x.promise(0, 2);
        C.due("and he would be another", 0, x.votes(0, 2));
        C.due("than the bishop", 1, x.count(8));
        C.due("without a choir", -2, new BoyBishop().votes(0, 2));
        C.due("without boys, nobody", -1, Checks.of("choir 1 0").votes(0, 2));
        C.due("without boys, no boy", -2, Checks.of("choir 1 0").votes(0, 0));
    }

    /** "as many points as there are others whom they WANT less; most points, of several the least" */
    private static void pointsOfSeveral() {
        C.due("all alike: no points, the least", 0, Checks.of(SIX, "vote 1").method(0));
        C.due("two alike ahead: the least of them", 2, Checks.of(SIX, "vote 1 if boy=2 or boy=4").method(0));
        C.due("sums below 0", 5, Checks.of(SIX, "vote boy-9").method(0));
        // one voter of three has 2 1 0 for 0 1 2, two have 0 0 1: points are 2, 1 and 0 + 2 + 2
        C.due("equal wants give nothing", 2, Checks.of("choir 9 0;boy 9 0 0;boy 9 0 0;boy 9 0 0",
            "vote 2-boy if voter=0;vote boy/2").method(0));
        // one voter has 0 1 2 for 0 1 2, two have 1 1 0: points are 0 + 1 + 1, 1 + 1 + 1 and 2
        C.due("three points to two", 1, Checks.of("choir 9 0;boy 9 0 0;boy 9 0 0;boy 9 0 0",
            "vote boy if voter=0;vote 1-boy/2").method(0));
        // as many points for both: 1 each of two voters
        C.due("as many points: the least", 0, Checks.of("choir 9 0;boy 9 0 0;boy 9 0 0", "vote same").method(0));
    }

    /** "who is WANTED more than each other one by more BOYS than the other way round (nobody, if there is none such)" */
    private static void eachOfTwo() {
        String three = "choir 9 0;boy 9 0 0;boy 9 0 0;boy 9 0 0";
        C.due("one to one", -1, Checks.of("choir 9 0;boy 9 0 0;boy 9 0 0", "vote same").method(1));
        C.due("two to one", 1, Checks.of("choir 9 0;boy 9 0 0;boy 9 0 0;boy 9 0 0", "vote boy if voter>0 and boy<2;vote 1-boy if boy<2;vote 0-9").method(1));
        C.due("one to none", 1, Checks.of("choir 9 0;boy 9 0 0;boy 9 0 0", "vote boy if voter=0;vote 1").method(1));
        C.due("none to none", -1, Checks.of("choir 9 0;boy 9 0 0;boy 9 0 0", "vote 1").method(1));
        C.due("ahead of one, even with the other", -1, Checks.of(three, "vote 9 if boy=0 or boy=1;vote 1").method(1));
        C.due("sums below 0", 2, Checks.of(three, "vote boy-9").method(1));
        C.due("the only one", 0, Checks.of("choir 9 0;boy 9 0 0").method(1));
    }

    /** "who has fewest first votes among those left ... goes, of several the greatest number: who is left" */
    private static void lastOfSeveral() {
        C.due("each for himself: the greatest goes first", 0, Checks.of(SIX, "vote same").method(2));
        C.due("all alike: the least has all first votes", 0, Checks.of(SIX, "vote 1").method(2));
        C.due("nobody is wanted: the first votes are cast all the same", 5, Checks.of(SIX, "vote boy-9").method(2));
        // 0 and 1 for 0, 2 for 1 ahead of 2, 3 for 2 ahead of 1, 4 for 3 ahead of 1: 2 and 3 have one each, 3 goes, then 2, then it is 2 to 3
        BoyBishop x = Checks.of("choir 9 0;boy 9 0 0;boy 9 0 0;boy 9 0 0;boy 9 0 0;boy 9 0 0",
            "vote 9 if voter<2 and boy=0;vote 9-boy if voter=2 and boy>0;vote 9 if voter=3 and boy=2;vote 8 if voter=3 and boy=1;"
            + "vote 9 if voter=4 and boy=3;vote 8 if voter=4 and boy=1;vote 0");
        C.due("who is left at last", 1, x.method(2));
        C.due("though another has most votes", 0, x.votes(0, 2));
    }

    /** "(nobody, if all are BROKEN, by all three)" */
    private static void allBrokenByAllThree() {
        BoyBishop x = Checks.of("choir 9 0;boy 9 5 0;boy 9 6 0");
        for (int method = 0; method < 3; method++) C.due("two are left: method " + method, 1, x.method(method));
        x.breaks(1);
        for (int method = 0; method < 3; method++) C.due("one is left: method " + method, 0, x.method(method));
        x.breaks(0);
        for (int method = 0; method < 3; method++) C.due("all are broken: method " + method, -1, x.method(method));
        for (int method = 0; method < 3; method++) C.due("no boys: method " + method, -1, Checks.of("choir 1 0").method(method));
    }

    private static void methodsThatAreNone() {
        BoyBishop x = Checks.of("choir 9 0;boy 9 5 0");
        for (int method : new int[] {-1, 3, MOST, LEAST}) C.due("method " + method, -2, x.method(method));
        for (int method = -1; method < 4; method++) C.due("without a choir: method " + method, -2, new BoyBishop().method(method));
    }

    /** "the least SHARE, 0 to 20, in place of his, by which he is chosen now"; "-2: by none; NONE without these" */
    private static void leastFromNoneToTwenty() {
        String two = "choir 9 0;boy 9 5 0;boy 9 20 0";
        C.due("as much as the other's is enough for the least", 20, Checks.of(two).least(0));
        C.due("the other needs one more than his", 6, Checks.of(two).least(1));
        C.due("one vote of two is enough for the least", 20, Checks.of(two + ";likes 0 1 1").least(0));
        C.due("by none", -2, Checks.of(two + ";likes 0 1 1;likes 1 1 1").least(0));
        C.due("by 0", 0, Checks.of("choir 9 0;boy 9 5 0;boy 9 0 0;likes 0 0 1").least(0));
        C.due("by 1, since 0 is no vote", 1, Checks.of("choir 9 0;boy 9 5 0;boy 9 0 0").least(0));
        C.due("by no more than there may be", -2, Checks.of("choir 9 0;boy 9 0 0", "vote share-20").least(0));
        C.due("by as much as there may be", 20, Checks.of("choir 9 0;boy 9 0 0", "vote share-19").least(0));
        C.due("the least of several that part", 3, Checks.of("choir 9 0;boy 9 0 0", "vote 1 if share=3 or share=9").least(0));
        BoyBishop x = Checks.of(two);
        for (int boy : new int[] {-1, 2, 6, MOST, LEAST}) C.due("least(" + boy + ")", -1, x.least(boy));
        x.breaks(1);
        C.due("broken", -1, x.least(1));
        C.due("the other has it by 1 then", 1, x.least(0));
        C.due("shares stay", 5, x.boy(0, 1));
        C.due("without a choir", -1, new BoyBishop().least(0));
    }

    /** "the fewest BOYS who are to vote for him in place of whom they do, so that he is chosen" */
    private static void winOverTheFewest() {
        BoyBishop x = Checks.of(SIX, "vote 1 if boy=2");
        int[] fewest = {3, 3, 0, 4, 4, 4};
        for (int boy = 0; boy < 6; boy++) C.due("all vote for 2: fewest for " + boy, fewest[boy], x.winOver(boy, 0));
        x = Checks.of(SIX, "vote same");
        int[] each = {0, 1, 1, 1, 1, 1};
        for (int boy = 0; boy < 6; boy++) C.due("each for himself: fewest for " + boy, each[boy], x.winOver(boy, 0));
        x = Checks.of(SIX, "vote 0");
        for (int boy = 0; boy < 6; boy++) C.due("nobody votes: fewest for " + boy, 1, x.winOver(boy, 0));
        C.due("alone, who votes for himself", 0, Checks.of("choir 9 0;boy 9 1 0").winOver(0, 0));
        C.due("alone, who does not", 1, Checks.of("choir 9 0;boy 9 0 0").winOver(0, 0));
        for (int boy : new int[] {-1, 6, MOST, LEAST}) C.due("winOver(" + boy + ", 0)", -1, x.winOver(boy, 0));
        for (int what : new int[] {-1, 2, MOST, LEAST}) C.due("winOver(0, " + what + ")", -1, x.winOver(0, what));
        x.breaks(3);
        C.due("broken: how many", -1, x.winOver(3, 0));
        C.due("broken: the set", -1, x.winOver(3, 1));
        C.due("without a choir", -1, new BoyBishop().winOver(0, 0));
    }

    /** "of several sets the least as bits" */
    private static void winOverTheLeastSet() {
        BoyBishop x = Checks.of(SIX, "vote 1 if boy=2");
        int[] sets = {7, 7, 0, 15, 15, 15};
        for (int boy = 0; boy < 6; boy++) C.due("all vote for 2: the set for " + boy, sets[boy], x.winOver(boy, 1));
        x = Checks.of(SIX, "vote same");
        int[] each = {0, 1, 1, 1, 1, 1};
        for (int boy = 0; boy < 6; boy++) C.due("each for himself: the set for " + boy, each[boy], x.winOver(boy, 1));
        // 0 and 1 vote for 5 already, 2 to 5 for 0: 2 of the four make it four to two, one makes it three to three
        x = Checks.of(SIX, "vote 1 if boy=5 and voter<2;vote 1 if boy=0 and voter>1");
        C.due("who votes for him is not won over: how many", 2, x.winOver(5, 0));
        C.due("who votes for him is not won over: the set", 12, x.winOver(5, 1));
        x.breaks(2);
        C.due("one whose voice is broken is won over, too", 12, x.winOver(5, 1));
        // 0 to 2 for 3, 3 to 5 for 4: one of those who vote for 3 is enough for 4, one of those for 4 is not asked
        x = Checks.of(SIX, "vote 1 if boy=3 and voter<3;vote 1 if boy=4 and voter>2");
        C.due("from whom it must be taken", 1, x.winOver(4, 1));
        C.due("for another, from both", 11, x.winOver(5, 1));
    }

    /** "twos of which neither has more by another one: how many; the first (by the first one, then the second one)" */
    private static void restsOfTwo() {
        BoyBishop x = Checks.of("choir 9 0;boy 9 0 0;boy 9 0 0;boy 9 0 0", "vote 1 if boy=2");
        C.due("neither is ever chosen: all twos", 25, x.rests(0, 1, 0));
        C.due("the first of all", 0, x.rests(0, 1, 1));
        C.due("the first of all, of the other", 0, x.rests(0, 1, 2));
        C.due("who is chosen whatever he promises: 0, and the other anything", 5, x.rests(2, 0, 0));
        C.due("the other way round", 5, x.rests(0, 2, 0));
        x = Checks.of("choir 9 0;boy 9 7 0;boy 9 3 0;boy 9 9 0", "vote 1 if boy=0 and share=20;vote 1 if boy=1 and share=15");
        // 0 is chosen by 20 alone, and has 0 then: all is one to him; 1 is chosen by 15, unless 0 has 20: 4 and 5 twos
        C.due("a share of 20 has nothing: how many", 9, x.rests(0, 1, 0));
        C.due("a share of 20 has nothing: of one", 0, x.rests(0, 1, 1));
        C.due("a share of 20 has nothing: of the other", 15, x.rests(0, 1, 2));
        C.due("the first by the first one", 0, x.rests(1, 0, 1));
        C.due("then the second one", 20, x.rests(1, 0, 2));
        C.due("the shares stay", 7, x.boy(0, 1));
        for (int bad : new int[] {-1, 3, 6, MOST, LEAST}) {
            C.due("rests(" + bad + ", 0, 0)", -1, x.rests(bad, 0, 0));
            C.due("rests(0, " + bad + ", 0)", -1, x.rests(0, bad, 0));
            C.due("rests(0, 1, " + bad + ")", -1, x.rests(0, 1, bad));
        }
        for (int what = 0; what < 3; what++) C.due("of one with himself: " + what, -1, x.rests(1, 1, what));
        x.breaks(1);
        for (int what = 0; what < 3; what++) {
            C.due("broken: " + what, -1, x.rests(1, 0, what));
            C.due("the other is broken: " + what, -1, x.rests(0, 1, what));
        }
        C.due("without a choir", -1, new BoyBishop().rests(0, 1, 0));
    }

    /** "as many HOURS as there are now" */
    private static void roundInHours() {
        for (int hours = 0; hours <= 24; hours++) {
            BoyBishop x = Checks.of("choir 1 " + hours + ";farm 5 0;farm 6 0;way 0 1 3;way 1 2 4");
            int set = hours < 6 ? 0 : hours < 14 ? 1 : 3;
            C.due(hours + " hours: how much", new int[] {0, 5, 6, 11}[set], x.round(0));
            C.due(hours + " hours: the set", set, x.round(1));
            C.due(hours + " hours: hours", new int[] {0, 6, 14, 14}[set], x.round(2));
        }
        String star = ";farm 1 0;farm 1 0;farm 1 0;farm 1 0;farm 1 0;farm 2 0;way 0 1 1;way 0 2 1;way 0 3 1;way 0 4 1;way 0 5 1;way 0 6 1";
        C.due("all six", 63, Checks.of("choir 1 12" + star).round(1));
        C.due("five of six", 47, Checks.of("choir 1 11" + star).round(1));
        C.due("one of six", 32, Checks.of("choir 1 3" + star).round(1));
        C.due("none of six", 0, Checks.of("choir 1 1" + star).round(1));
        C.due("one that has laid by 1", 1, Checks.of("choir 1 2;farm 1 0;way 0 1 1").round(1));
        C.due("one that has laid by 0", 0, Checks.of("choir 1 2;farm 0 0;way 0 1 1").round(1));
        for (int what : new int[] {-1, 3, MOST, LEAST}) C.due("round(" + what + ")", -1, Checks.of("choir 1 12" + star).round(what));
        C.due("without a choir", -1, new BoyBishop().round(0));
        for (int what = 0; what < 3; what++) C.due("without farms: " + what, 0, Checks.of("choir 1 12").round(what));
        for (int what = 0; what < 3; what++) C.due("without ways: " + what, 0, Checks.of("choir 1 24;farm 9 9").round(what));
    }

    /** "(half as many, downwards, on a DAY of SNOW)" */
    private static void roundBySnow() {
        for (int hours = 0; hours <= 24; hours++) {
            BoyBishop x = Checks.of("choir 1 " + hours + ";farm 5 0;way 0 1 3;snow 0");
            C.due(hours + " hours by snow", hours >= 12 ? 5 : 0, x.round(0));
            C.due(hours + " hours by snow: hours", hours >= 12 ? 6 : 0, x.round(2));
            x.day();
            C.due(hours + " hours behind the snow", hours >= 6 ? 5 : 0, x.round(0));
        }
        C.due("odd hours, downwards", 0, Checks.of("choir 1 3;farm 5 0;way 0 1 1;snow 0").round(1));
        C.due("four hours by snow", 1, Checks.of("choir 1 4;farm 5 0;way 0 1 1;snow 0").round(1));
        C.due("five hours by snow", 1, Checks.of("choir 1 5;farm 5 0;way 0 1 1;snow 0").round(1));
    }

    /** "of several the fewest HOURS (by the best order), then the least as bits" */
    private static void roundOfSeveral() {
        C.due("as much in fewer hours", 2, Checks.of("choir 1 9;farm 5 0;farm 5 0;way 0 1 4;way 0 2 3").round(1));
        C.due("as much in as many hours", 1, Checks.of("choir 1 9;farm 5 0;farm 5 0;way 0 1 3;way 0 2 3").round(1));
        C.due("one that has nothing is left out", 1, Checks.of("choir 1 24;farm 5 0;farm 0 0;way 0 1 3;way 0 2 3").round(1));
        C.due("one that has nothing and lies on the way, too", 2, Checks.of("choir 1 24;farm 0 0;farm 5 0;way 0 1 3;way 1 2 3").round(1));
        C.due("the two that have most", 6, Checks.of("choir 1 4;farm 2 0;farm 3 0;farm 5 0;way 0 1 1;way 0 2 1;way 0 3 1").round(1));
        BoyBishop x = Checks.of("choir 1 7;farm 2 0;farm 3 0;farm 5 0;way 0 1 1;way 1 2 1;way 0 2 1;way 0 3 2");
        // 1 and 2 lie in a ring of three hours, 3 by itself in four: together seven
        C.due("the best order", 7, x.round(1));
        C.due("its hours", 7, x.round(2));
        x = Checks.of("choir 1 6;farm 2 0;farm 3 0;farm 5 0;way 0 1 1;way 1 2 1;way 0 2 1;way 0 3 2");
        C.due("in six hours the third and the better of the others", 6, x.round(1));
        C.due("which takes them all", 6, x.round(2));
        x = Checks.of("choir 1 4;farm 2 0;farm 3 0;farm 5 0;way 0 1 1;way 1 2 1;way 0 2 1;way 0 3 2");
        C.due("in four hours two of them are as much as the third, in fewer", 3, x.round(1));
        C.due("in three hours", 3, x.round(2));
    }

    /** "FALLS of a CANON who lives in n DAYS (1 to 60): the DAY on which he dies, if he does" */
    private static void fallsInDays() {
        for (int day = 0; day < 10; day++) {
            BoyBishop x = Checks.days(Checks.of("choir 1 0;canon 99 0;canon 94 0;canon 93 0"), day);
            if (day < 9) C.due("day " + day + ", a day too few", -2, x.falls(0, 9 - day));
            C.due("day " + day + ", enough", 9, x.falls(0, 10 - day));
            C.due("day " + day + ", more", 9, x.falls(0, 60));
            if (day > 0) C.due("day " + day + ", 94 years, enough", 59, x.falls(1, 60 - day));
            C.due("day " + day + ", 94 years, a day too few", -2, x.falls(1, 59 - day));
            C.due("day " + day + ", 93 years in 60", -2, x.falls(2, 60));
        }
        BoyBishop x = Checks.days(Checks.of("choir 1 0;canon 99 0;canon 93 0"), 10);
        C.due("dead", -1, x.falls(0, 60));
        C.due("60 days from day 10", 69, x.falls(1, 60));
        C.due("59 days from day 10", -2, x.falls(1, 59));
        for (int n : new int[] {-1, 0, 61, MOST, LEAST}) C.due("falls(1, " + n + ")", -1, x.falls(1, n));
        for (int canon : new int[] {-1, 2, 4, MOST, LEAST}) C.due("falls(" + canon + ", 1)", -1, x.falls(canon, 1));
        C.due("in 1 he does not", -2, x.falls(1, 1));
        C.due("without a choir", -1, new BoyBishop().falls(0, 1));
    }

    /** "of 10000 AGE of a thousand of what is left goes each DAY, upwards (AGE as it is now): how much is gone then" */
    private static void likelyUpwards() {
        BoyBishop x = Checks.of("choir 1 0;canon 20 0;canon 99 0;canon 50 0");
        C.due("20: 200", 200, x.likely(0, 1));
        C.due("20: 196 more", 396, x.likely(0, 2));
        C.due("20: 192.08, upwards, more", 589, x.likely(0, 3));
        C.due("99: 990", 990, x.likely(1, 1));
        C.due("99: 891.99, upwards, more", 1882, x.likely(1, 2));
        C.due("50: 500", 500, x.likely(2, 1));
        C.due("50: 475 more", 975, x.likely(2, 2));
        C.due("50: 451.25, upwards, more", 1427, x.likely(2, 3));
        for (int canon = 0; canon < 3; canon++) {
            int age = x.canon(canon, 0);
            int left = 10000;
            for (int n = 1; n <= 60; n++) {
                int goes = left * age / 1000;
                if (goes * 1000 < left * age) goes++;
                left -= goes;
                C.due("age " + age + " in " + n, 10000 - left, x.likely(canon, n));
            }
        }
        for (int n : new int[] {-1, 0, 61, MOST, LEAST}) C.due("likely(0, " + n + ")", -1, x.likely(0, n));
        for (int canon : new int[] {-1, 3, 4, MOST, LEAST}) C.due("likely(" + canon + ", 1)", -1, x.likely(canon, 1));
        Checks.days(x, 9);
        C.due("on day 9 he is as old as now, though he will be older", 2 * 200 - 4, x.likely(0, 2));
        C.due("on day 9 he lives", 990, x.likely(1, 1));
        x.day();
        C.due("on day 10 he is older", 210, x.likely(0, 1));
        C.due("on day 10 he is dead", -1, x.likely(1, 1));
        C.due("without a choir", -1, new BoyBishop().likely(0, 1));
    }

    /** "the CANON who lives, and will longest, of several the least" */
    private static void bestOfSeveral() {
        C.due("the younger one", 1, Checks.of("choir 1 0;canon 50 0;canon 49 0").best(0));
        C.due("the younger one first", 0, Checks.of("choir 1 0;canon 49 0;canon 50 0").best(0));
        C.due("as old: the least", 0, Checks.of("choir 1 0;canon 49 0;canon 49 0").best(0));
        C.due("as old behind an older one", 1, Checks.of("choir 1 0;canon 50 0;canon 49 0;canon 49 0;canon 60 0").best(0));
        BoyBishop x = Checks.of("choir 1 0;canon 99 0;canon 99 0");
        C.due("they live", 0, x.best(0));
        Checks.days(x, 10);
        C.due("none lives", -2, x.best(0));
        C.due("no days", -2, x.best(1));
        for (int what : new int[] {-1, 2, MOST, LEAST}) C.due("best(" + what + "), none lives", -1, x.best(what));
        x = Checks.days(Checks.of("choir 1 0;canon 99 0;canon 98 0"), 10);
        C.due("one is dead", 1, x.best(0));
        C.due("without canons", -2, Checks.of("choir 1 0").best(1));
        C.due("without a choir", -1, new BoyBishop().best(0));
        C.due("without a choir, days", -1, new BoyBishop().best(1));
    }

    /** "as many DAYS as till he is dead" */
    private static void daysTillDead() {
        BoyBishop x = Checks.of("choir 1 0;canon 98 0");
        for (int left = 20; left > 0; left--) {
            C.due("days till he is dead", left, x.best(1));
            x.day();
        }
        C.due("he is", 100, x.canon(0, 0));
        C.due("the longest that there can be", 800, Checks.of("choir 1 0;canon 20 0").best(1));
    }

    /** "NOTES 0 to 9"; "-2, and nothing happens, ... or if there are 10"; "(n NONE: there are none then, 0)" */
    private static void tenNotes() {
        BoyBishop x = Checks.of("choir 9 0;boy 9 1 0");
        C.due("none, of none", 0, x.note(-1, 0));
        for (int i = 1; i <= 10; i++) C.due("note " + i, i, x.note(0, 0));
        for (int i = 0; i < 3; i++) {
            C.due("an eleventh", -2, x.note(1, -1));
            C.due("there are ten", 10, x.count(16));
        }
        C.due("it is not among them", 1, x.ruled(0));
        for (int boy : new int[] {-2, -1, 0, 1, MOST, LEAST}) {
            x.note(2, 0);
            C.due("none any more, whoever is named: " + boy, 0, x.note(-1, boy));
            C.due("there are none", 0, x.count(16));
        }
        C.due("one again", 1, x.note(0, -1));
        C.due("and it is not so", 0, x.ruled(0));
        C.due("none without a choir", 0, new BoyBishop().note(-1, 0));
    }

    /** "behind the n-th DAY of all (0 to 60) a BOY was BISHOP, or nobody (NONE)" */
    private static void notesOfDaysAndBoys() {
        BoyBishop x = Checks.of("choir 9 0;boy 9 1 0;boy 9 0 0");
        for (int n : new int[] {-2, 61, MOST, LEAST}) C.due("note(" + n + ", 0)", -2, x.note(n, 0));
        for (int boy : new int[] {-2, 2, 6, MOST, LEAST}) C.due("note(0, " + boy + ")", -2, x.note(0, boy));
        C.due("none was told", 0, x.count(16));
        C.due("day 0", 1, x.note(0, 0));
        C.due("day 60", 2, x.note(60, 0));
        C.due("the last boy", 3, x.note(1, 1));
        C.due("nobody", 4, x.note(1, -1));
        C.due("without a choir", -2, new BoyBishop().note(0, -1));
        C.due("without boys, nobody", 1, Checks.of("choir 1 0").note(60, -1));
        C.due("without boys, a boy", -2, Checks.of("choir 1 0").note(60, 0));
        x.breaks(1);
        C.due("one whose voice is broken now", 5, x.note(3, 1));
    }

    /** "which of the RULES, and of none ... the first (none ahead of 0, told as NONE)"; "-2: there is none such" */
    private static void ruledByNone() {
        BoyBishop x = Checks.of("choir 40 0;boy 9 1 0;boy 9 0 0");
        C.due("none alone", 1, x.ruled(0));
        C.due("is the first", -1, x.ruled(1));
        for (int i = 0; i < 6; i++) {
            Checks.rule(x, i < 4 ? "vote boy" : "vote 0");
            C.due("rules and none", 2 + i, x.ruled(0));
        }
        C.due("all, and none is ahead of 0", -1, x.ruled(1));
        x.note(0, 1);
        C.due("four rules", 4, x.ruled(0));
        C.due("the first is 0", 0, x.ruled(1));
        x.note(-1, 0);
        x.note(60, -1);
        C.due("two rules", 2, x.ruled(0));
        C.due("the first is 4", 4, x.ruled(1));
        x.note(-1, 0);
        x.note(38, 0);
        C.due("none but none", 1, x.ruled(0));
        C.due("told as NONE", -1, x.ruled(1));
        x.note(39, -1);
        C.due("the end of the reign, too", 1, x.ruled(0));
        x.note(39, 0);
        C.due("no rule", 0, x.ruled(0));
        C.due("there is none such", -2, x.ruled(1));
        for (int what : new int[] {-1, 2, MOST, LEAST}) C.due("ruled(" + what + ")", -3, x.ruled(what));
        for (int what = 0; what < 2; what++) C.due("without a choir: " + what, -3, new BoyBishop().ruled(what));
        x = Checks.of("choir 40 0;boy 9 1 0", "vote 1", "vote 0");
        x.note(40, 0);
        C.due("the rule in force is not asked", 2, x.ruled(0));
        x.breaks(0);
        x.day();
        C.due("nor what was done by hand", 2, x.ruled(0));
    }

    /** "the most alike are fewest, of several the least; how many"; "-2: no RULE is so" */
    private static void lookOfSeveral() {
        BoyBishop x = Checks.of("choir 40 0;boy 9 0 0;boy 9 0 0;boy 9 0 0");
        C.due("one alone: day 0", 0, x.look(0));
        C.due("one alone", 1, x.look(1));
        Checks.rule(x, "vote 1 if day>=5 and boy=0");
        Checks.rule(x, "vote 1 if day>=7 and boy=1");
        C.due("three that part: the first day on which all do", 7, x.look(0));
        C.due("each alone", 1, x.look(1));
        Checks.rule(x, "vote 1 if day>=7 and boy=1");
        C.due("four, two of them alike: day 7", 7, x.look(0));
        C.due("two alike", 2, x.look(1));
        x.note(6, -1);
        C.due("three of them: day 7", 7, x.look(0));
        C.due("two still alike", 2, x.look(1));
        x.note(10, 1);
        C.due("two that never part: day 0", 0, x.look(0));
        C.due("two alike on each day", 2, x.look(1));
        x.note(10, 0);
        C.due("no rule is so", -2, x.look(0));
        C.due("no rule is so: how many", -2, x.look(1));
        for (int what : new int[] {-1, 2, MOST, LEAST}) C.due("look(" + what + ")", -1, x.look(what));
        for (int what = 0; what < 2; what++) C.due("without a choir: " + what, -1, new BoyBishop().look(what));
    }

    /** "the DAY (0 to 60)" */
    private static void lookTheLastDay() {
        BoyBishop x = Checks.of("choir 40 0;boy 9 0 0", "vote day/60");
        C.due("behind day 60", 60, x.look(0));
        C.due("they part", 1, x.look(1));
        x = Checks.of("choir 40 0;boy 9 0 0", "vote day/61");
        C.due("behind day 61 is not looked", 0, x.look(0));
        C.due("so both are alike", 2, x.look(1));
        x = Checks.of("choir 40 0;boy 9 0 0", "vote 1");
        C.due("behind day 0", 0, x.look(0));
        C.due("they part at once", 1, x.look(1));
        x = Checks.of("choir 40 0;boy 9 0 0", "vote day");
        C.due("behind day 1", 1, x.look(0));
    }

    /** "x becomes a number: what it was; NONE, and nothing happens, below 0"; "x (0 to 2147483647; 0 at first)" */
    private static void seeds() {
        BoyBishop x = new BoyBishop();
        C.due("0 at first", 0, x.count(18));
        C.due("what it was", 0, x.seed(MOST));
        C.due("the greatest", MOST, x.count(18));
        for (int bad : new int[] {-1, -2, LEAST}) {
            C.due("seed(" + bad + ")", -1, x.seed(bad));
            C.due("nothing happens", MOST, x.count(18));
        }
        C.due("what it was then", MOST, x.seed(0));
        C.due("0 again", 0, x.seed(1));
    }

    /** "x becomes x * 1103515245 + 12345, of 2147483648 the rest; a DRAW is x / 65536" */
    private static void drawsGoRound() {
        // 2147483647 * 1103515245 + 12345, of 2147483648 the rest: 1043980748; by 65536: 15929
        oneDraw(2147483647, 29);
        // 1103515245 + 12345 = 1103527590; by 65536: 16838
        oneDraw(1, 38);
        oneDraw(0, 0);
        // 2 * 1103515245 + 12345 = 2207042835, the rest 59559187; by 65536: 908
        oneDraw(2, 8);
    }

    private static void oneDraw(int x, int draw) {
        BoyBishop b = Checks.of("choir 9 0;boy 9 1 0");
        b.seed(x);
        for (int p = 0; p <= 100; p++) {
            C.due("x " + x + ", p " + p + ": broken", draw < p ? 1 : 0, b.winters(1, 1, p, 1));
            C.due("x " + x + ", p " + p + ": chosen", draw < p ? 0 : 1, b.winters(1, 1, p, 0));
        }
        C.due("x as it was", x, b.count(18));
    }

    /** "a DRAW mod 100: below p (0 to 100) it is" */
    private static void wintersBelowP() {
        BoyBishop x = Checks.of(SIX, "vote same");
        C.due("p 0 breaks none", 0, x.winters(10, 60, 0, 1));
        C.due("p 100 breaks all", 60, x.winters(10, 1, 100, 1));
        C.due("p 100: so none is chosen", 0, x.winters(10, 60, 100, 0));
        // draws from 0, mod 100: 0 68 88 17 98 27, then 45 41 22 10
        int[] draws = {0, 68, 88, 17, 98, 27};
        for (int p = 0; p <= 100; p++) {
            int below = 0;
            for (int draw : draws) below += draw < p ? 1 : 0;
            C.due("p " + p, below, x.winters(1, 1, p, 1));
        }
        x.breaks(0);
        x.breaks(2);
        // four boys draw 0 68 88 17
        C.due("those who are broken draw nothing, and are counted", 2 + 2, x.winters(1, 1, 18, 1));
        C.due("nothing stays", 5, x.count(15));
    }

    /** "m times (1 to 10) n DAYS (1 to 60)"; "NONE without these, or a CHOIR" */
    private static void wintersRefused() {
        BoyBishop x = Checks.of("choir 9 0;boy 9 1 0");
        int[][] edges = {{1, 10}, {1, 60}, {0, 100}, {0, 1}};
        for (int which = 0; which < 4; which++) {
            for (int side = 0; side < 2; side++) {
                int[] a = {1, 1, 0, 0};
                a[which] = edges[which][side];
                C.due("winters" + java.util.Arrays.toString(a) + " answers", 1, x.winters(a[0], a[1], a[2], a[3]) >= 0 ? 1 : 0);
                a[which] += side == 0 ? -1 : 1;
                C.due("winters" + java.util.Arrays.toString(a), -1, x.winters(a[0], a[1], a[2], a[3]));
                a[which] = side == 0 ? LEAST : MOST;
                C.due("winters" + java.util.Arrays.toString(a), -1, x.winters(a[0], a[1], a[2], a[3]));
            }
        }
        C.due("without a choir", -1, new BoyBishop().winters(1, 1, 0, 0));
        C.due("without boys: how often", 0, Checks.of("choir 1 0").winters(10, 60, 100, 0));
        C.due("without boys: how many", 0, Checks.of("choir 1 0").winters(10, 60, 100, 1));
    }

    /** "how often a VOTE chose somebody in these; how many voices are BROKEN then, all together" */
    private static void wintersAllTogether() {
        BoyBishop x = Checks.of("choir 1 0;boy 9 1 1;boy 5 1 1;boy 99 1 0");
        for (int m = 1; m <= 10; m++) {
            C.due(m + " winters: how often", m * 60, x.winters(m, 60, 0, 0));
            C.due(m + " winters: how many", m * 2, x.winters(m, 60, 0, 1));
        }
        C.due("four days: none", 0, x.winters(10, 4, 0, 1));
        C.due("five days: one", 10, x.winters(10, 5, 0, 1));
        C.due("eight days: one", 10, x.winters(10, 8, 0, 1));
        C.due("nine days: two", 20, x.winters(10, 9, 0, 1));
        x = Checks.of("choir 40 0;boy 9 1 0");
        C.due("a vote on day 0", 1, x.winters(1, 40, 0, 0));
        C.due("and on day 40", 2, x.winters(1, 41, 0, 0));
        x.day();
        C.due("from now on there is a bishop", 0, x.winters(1, 39, 0, 0));
        C.due("and then a vote", 1, x.winters(1, 40, 0, 0));
        C.due("the draws of a winter go on behind those of the one ahead of it: 0, then 68", 1, x.winters(2, 1, 68, 1));
        C.due("0 and 68", 2, x.winters(2, 1, 69, 1));
    }

    /** Six boys, four canons and six farms by days and by all that is asked: the last of each is one of them. */
    private static void allThatThereMayBe() {
        BoyBishop x = Checks.of("choir 2 24;boy 9 1 0;boy 9 2 0;boy 9 3 0;boy 9 4 0;boy 9 5 0;boy 9 6 1;canon 99 1;canon 99 2;canon 99 3;canon 98 4;"
            + "farm 9 1;farm 9 1;farm 9 1;farm 9 1;farm 9 1;farm 9 4;way 0 6 2;way 6 5 1");
        C.due("the last boy is chosen", 5, x.day());
        C.due("and goes to the last farm", 8, x.visit(5));
        x.day();
        C.due("which lays by", 4, x.farm(5, 2));
        C.due("the round to it and the one behind it", 13, x.round(0));
        C.due("as bits", 48, x.round(1));
        C.due("laid by in three days", 9, x.ahead(5, 3, 2));
        C.due("his voice in three days", 4, x.ahead(5, 3, 1));
        C.due("his votes", 6, x.votes(5, 1));
        C.due("his points", 5, x.method(0));
        C.due("ahead of each", 5, x.method(1));
        C.due("the last left", 5, x.method(2));
        C.due("his least", 6, x.least(5));
        C.due("another's fewest", 3, x.winOver(4, 0));
        C.due("rests: one is chosen by as much as the other", 3, x.rests(4, 5, 0));
        Checks.days(x, 9);
        C.due("the last canon alone lives", 3, x.best(0));
        C.due("and falls", 19, x.falls(3, 9));
        C.due("the last boy is broken", 32, x.count(15));
        C.due("voices broken in winters", 10 * 6, x.winters(10, 60, 100, 1));
        C.due("nobody is wanted as he was", 4, x.votes(5, 0));
    }

    private static void counts() {
        BoyBishop x = Checks.of(Checks.CHOIR);
        for (int what : new int[] {-1, -2, 20, 21, MOST, LEAST}) C.due("count(" + what + ")", -1, x.count(what));
        C.due("the first", 3, x.count(0));
        Checks.say(x, "abc");
        C.due("the last", 3, x.count(19));
    }

    /** "IMAGES 0 to 3"; "if it was never made, or without it"; "nothing can be UNDONE then" */
    private static void images() {
        BoyBishop x = Checks.of("choir 9 0;boy 9 1 0");
        for (int k = -1; k < 5; k++) C.due("back(" + k + "), never made", -1, x.back(k));
        for (int k = 0; k < 4; k++) {
            x.day();
            C.due("image(" + k + ")", k + 1, x.image(k));
            for (int other = k + 1; other < 4; other++) C.due("back(" + other + "), not made yet", -1, x.back(other));
        }
        for (int k : new int[] {-1, 4, MOST, LEAST}) {
            C.due("image(" + k + ")", -1, x.image(k));
            C.due("back(" + k + ")", -1, x.back(k));
        }
        C.due("acts stay by what is refused", 4, x.count(17));
        for (int k = 3; k >= 0; k--) {
            C.due("back(" + k + ")", k + 1, x.back(k));
            C.due("day", k + 1, x.count(7));
            C.due("nothing can be undone", -1, x.undo());
        }
        x.day();
        C.due("the day behind the first image", 2, x.count(7));
        C.due("can be undone", 0, x.undo());
        C.due("to the image", 1, x.count(7));
        C.due("the later ones stay", 4, x.back(3));
    }
}
