/** Promises 17 to 31: what is asked, by which nothing changes. */
public final class QuestionsTest {
    private static final Checks C = new Checks("QuestionsTest");

    private QuestionsTest() { }

    public static void main(String[] args) {
        ahead();
        votes();
        method();
        least();
        winOver();
        rests();
        round();
        falls();
        likely();
        best();
        note();
        ruled();
        look();
        seed();
        winters();
        nothingChanges();
        C.finish();
    }

    private static void ahead() {
        BoyBishop x = Checks.of(Checks.CHOIR);
        int[] bishops = {-1, 0, 0, -1, 0, -1, 2, 2, -1, 2, 2, -1};
        for (int n = 0; n < bishops.length; n++) C.due("who in " + n, bishops[n], x.ahead(-9, n, 0));
        int[] voices = {9, 7, 5, 3, 1, 0, 0};
        for (int n = 0; n < voices.length; n++) C.due("voice in " + n, voices[n], x.ahead(0, n, 1));
        C.due("laid by in 60", 20, x.ahead(0, 60, 2));
        x.day();
        x.visit(0);
        int[] laid = {0, 0, 5, 10, 15, 20, 20};
        for (int n = 0; n < laid.length; n++) C.due("laid by in " + n, laid[n], x.ahead(0, n, 2));
        C.due("61 days", -2, x.ahead(0, 61, 0));
        C.due("days below 0", -2, x.ahead(0, -1, 0));
        C.due("nothing such", -2, x.ahead(0, 1, 3));
        C.due("what below 0", -2, x.ahead(0, 1, -1));
        C.due("no such boy", -2, x.ahead(3, 1, 1));
        C.due("boy below 0", -2, x.ahead(-1, 1, 1));
        C.due("no such farm", -2, x.ahead(2, 1, 2));
        C.due("farm below 0", -2, x.ahead(-1, 1, 2));
        C.due("it is still day 1", 1, x.count(7));
        x = Checks.of(Checks.CHOIR, "vote voice");
        C.due("by the rule in force", 2, x.ahead(0, 1, 0));
    }

    private static void votes() {
        BoyBishop x = Checks.of(Checks.CHOIR);
        int[] whom = {1, 0, 0};
        int[] many = {2, 1, 0};
        for (int boy = 0; boy < 3; boy++) {
            C.due("for whom " + boy, whom[boy], x.votes(boy, 0));
            C.due("how many " + boy, many[boy], x.votes(boy, 1));
        }
        C.due("who is chosen", 0, x.votes(-5, 2));
        C.due("no such boy", -2, x.votes(3, 0));
        C.due("no such boy has", -2, x.votes(3, 1));
        C.due("boy below 0", -2, x.votes(-1, 0));
        C.due("nothing such", -2, x.votes(0, 3));
        C.due("what below 0", -2, x.votes(0, -1));
        x.breaks(0);
        C.due("one whose voice is broken votes", 1, x.votes(0, 0));
        C.due("and has no votes", 0, x.votes(0, 1));
        C.due("another is chosen", 1, x.votes(0, 2));
        x.breaks(1);
        C.due("whom nobody likes or promised", -1, x.votes(0, 0));
        C.due("himself", 2, x.votes(2, 0));
        C.due("the last one", 2, x.votes(0, 2));
        x.breaks(2);
        C.due("nobody", -1, x.votes(0, 2));
        C.due("nobody votes", -1, x.votes(2, 0));
        x = Checks.of("choir 1 0;boy 1 3 0;boy 1 3 0;boy 1 3 0;boy 1 0 0", "vote 5 if same=1");
        C.due("of several the least", 0, x.votes(0, 2));
        x.force(-1);
        C.due("of several wanted the least", 0, x.votes(3, 0));
    }

    private static String wish(int voter, int a, int b, int c) {
        return ";likes " + voter + " 0 " + a + ";likes " + voter + " 1 " + b + ";likes " + voter + " 2 " + c;
    }

    private static void methods(String name, BoyBishop x, int chosen, int points, int each, int last) {
        C.due(name + ": votes", chosen, x.votes(0, 2));
        C.due(name + ": points", points, x.method(0));
        C.due(name + ": each", each, x.method(1));
        C.due(name + ": last", last, x.method(2));
    }

    private static void method() {
        methods("three boys", Checks.of(Checks.CHOIR), 0, 0, 0, 0);
        String three = "choir 1 0;boy 1 0 0;boy 1 0 0;boy 1 0 0";
        methods("a circle", Checks.of(three + wish(0, 3, 2, 1) + wish(1, 1, 3, 2) + wish(2, 2, 1, 3)), 0, 0, -1, 0);
        methods("another circle", Checks.of(three + wish(0, 3, 1, 2) + wish(1, 2, 3, 1) + wish(2, 1, 2, 3)), 0, 0, -1, 1);
        methods("all alike", Checks.of(three), -1, 0, -1, 0);
        String five = three + ";boy 1 0 0;boy 1 0 0";
        BoyBishop x = Checks.of(five + wish(0, 3, 2, 1) + wish(1, 3, 2, 1) + wish(2, 1, 3, 2) + wish(3, 1, 3, 2) + wish(4, 1, 2, 3));
        x.breaks(3);
        x.breaks(4);
        methods("two and two and one", x, 0, 1, 1, 1);
        x = Checks.of(five + wish(0, 3, 2, 1) + wish(1, 3, 2, 1) + wish(2, 3, 2, 1) + wish(3, 1, 3, 2) + wish(4, 1, 3, 2));
        x.breaks(3);
        x.breaks(4);
        methods("three and two", x, 0, 1, 0, 0);
        x.breaks(0);
        x.breaks(2);
        methods("one is left", x, 1, 1, 1, 1);
        x.breaks(1);
        methods("all are broken", x, -1, -1, -1, -1);
        for (int method = 0; method < 3; method++) {
            C.due("asked at once " + method, method == 0 ? 1 : 0,
                Checks.of(five + wish(0, 3, 2, 1) + wish(1, 3, 2, 1) + wish(2, 3, 2, 1) + wish(3, 1, 3, 2) + wish(4, 1, 3, 2)
                    + ";snow 1").method(method));
        }
        C.due("no such method", -2, x.method(3));
        C.due("method below 0", -2, x.method(-1));
        methods("sums below 0 are wants, too", Checks.of("choir 1 0;boy 1 0 0;boy 1 0 0", "vote boy-5"), -1, 1, 1, 1);
    }

    private static void least() {
        BoyBishop x = Checks.of(Checks.CHOIR);
        C.due("least of 0", 4, x.least(0));
        C.due("least of 1", 12, x.least(1));
        C.due("least of 2", 14, x.least(2));
        C.due("no such boy", -1, x.least(3));
        C.due("boy below 0", -1, x.least(-1));
        x.breaks(2);
        C.due("broken", -1, x.least(2));
        x = Checks.of("choir 1 0;boy 1 0 0;boy 1 0 0", "vote share%7 if boy=0;vote 7-share%2");
        C.due("by none", -2, x.least(0));
        C.due("0", 0, x.least(1));
        x = Checks.of("choir 1 0;boy 1 20 0;boy 1 0 0", "vote share-19 if boy=0");
        C.due("20", 20, x.least(0));
        C.due("by none, either", -2, x.least(1));
        C.due("the share stays", 20, x.boy(0, 1));
    }

    private static void winOver() {
        BoyBishop x = Checks.of(Checks.CHOIR);
        int[][] due = {{0, 0}, {1, 2}, {2, 3}};
        for (int boy = 0; boy < 3; boy++) {
            C.due("how many for " + boy, due[boy][0], x.winOver(boy, 0));
            C.due("the set for " + boy, due[boy][1], x.winOver(boy, 1));
        }
        C.due("no such boy", -1, x.winOver(3, 0));
        C.due("boy below 0", -1, x.winOver(-1, 0));
        C.due("nothing such", -1, x.winOver(0, 2));
        C.due("what below 0", -1, x.winOver(0, -1));
        x.breaks(0);
        C.due("broken", -1, x.winOver(0, 0));
        x = Checks.of("choir 1 0" + ";boy 1 0 0".repeat(6));
        C.due("nobody votes: one is enough", 1, x.winOver(5, 0));
        C.due("nobody votes: the least", 1, x.winOver(5, 1));
        x = Checks.of("choir 1 0" + ";boy 1 0 0".repeat(6), "vote 1 if boy=0");
        C.due("all vote for another", 4, x.winOver(5, 0));
        C.due("all vote for another: the least", 15, x.winOver(5, 1));
    }

    private static void rests() {
        BoyBishop x = Checks.of("choir 1 0;boy 1 0 0;boy 1 0 0;boy 1 0 0");
        C.due("how many", 3, x.rests(0, 1, 0));
        C.due("of one", 15, x.rests(0, 1, 1));
        C.due("of the other", 15, x.rests(0, 1, 2));
        C.due("how many the other way round", 3, x.rests(1, 0, 0));
        C.due("the same one", -1, x.rests(1, 1, 0));
        C.due("no such one", -1, x.rests(3, 0, 0));
        C.due("no such other", -1, x.rests(0, 3, 0));
        C.due("one below 0", -1, x.rests(-1, 0, 0));
        C.due("other below 0", -1, x.rests(0, -1, 0));
        C.due("nothing such", -1, x.rests(0, 1, 3));
        C.due("what below 0", -1, x.rests(0, 1, -1));
        x.breaks(2);
        C.due("one is broken", -1, x.rests(2, 0, 0));
        C.due("the other is broken", -1, x.rests(0, 2, 0));
        x = Checks.of("choir 1 0;boy 1 0 0;boy 1 0 0", "vote 1 if boy=1");
        C.due("whatever they promise: how many", 5, x.rests(0, 1, 0));
        C.due("whatever they promise: of one", 0, x.rests(0, 1, 1));
        C.due("whatever they promise: of the other", 0, x.rests(0, 1, 2));
        x = Checks.of("choir 1 0;boy 1 0 0;boy 1 0 0", "vote 1 if share=10 and boy=1");
        C.due("one way to win: how many", 5, x.rests(0, 1, 0));
        C.due("one way to win: of one", 0, x.rests(0, 1, 1));
        C.due("one way to win: of the other", 10, x.rests(0, 1, 2));
        C.due("one way to win, the other way round: of one", 10, x.rests(1, 0, 1));
        C.due("one way to win, the other way round: of the other", 0, x.rests(1, 0, 2));
        x = noRest();
        C.due("no rest: how many", 0, x.rests(0, 1, 0));
        C.due("no rest: of one", -2, x.rests(0, 1, 1));
        C.due("no rest: of the other", -2, x.rests(0, 1, 2));
    }

    /** For each share the other has a better one: 5 for 0, 10 for 5, 15 for 10; and one has 0, 5, 10, 5, 10 for these. */
    private static BoyBishop noRest() {
        return Checks.of("choir 1 0;boy 1 0 0;boy 1 0 0;boy 1 0 0",
            "vote share*4%9+2 if voter=0;vote share*3%6+6 if voter=1;vote share*2%7+7");
    }

    private static void round() {
        BoyBishop x = Checks.of(Checks.CHOIR);
        C.due("how much", 30, x.round(0));
        C.due("the set", 3, x.round(1));
        C.due("hours", 6, x.round(2));
        C.due("nothing such", -1, x.round(3));
        C.due("what below 0", -1, x.round(-1));
        x.day();
        C.due("how much by snow", 20, x.round(0));
        C.due("the set by snow", 1, x.round(1));
        C.due("hours by snow", 4, x.round(2));
        x.visit(0);
        C.due("nothing in five hours", 0, x.round(0));
        C.due("so nowhere", 0, x.round(1));
        C.due("in no hours", 0, x.round(2));
        x = Checks.of("choir 1 12;farm 5 0;farm 5 0;farm 5 0;farm 5 0;way 0 1 3;way 0 2 2;way 0 3 2;way 2 1 1");
        C.due("how much of two", 15, x.round(0));
        C.due("the best order", 7, x.round(1));
        C.due("hours of the best order", 10, x.round(2));
        x = Checks.of("choir 1 4;farm 5 0;farm 5 0;farm 5 0;way 0 1 2;way 0 2 1;way 0 3 1");
        C.due("the fewest hours", 10, x.round(0));
        C.due("two near ones", 6, x.round(1));
        x = Checks.of("choir 1 4;farm 5 0;farm 5 0;farm 5 0;way 0 1 2;way 0 2 1;way 0 3 2");
        C.due("as much, in fewer hours", 2, x.round(1));
        C.due("two hours", 2, x.round(2));
        x = Checks.of("choir 1 3;farm 5 0;farm 5 0;way 0 1 1;way 0 2 1");
        C.due("the least as bits", 1, x.round(1));
        x = Checks.of("choir 1 24;farm 5 0;farm 0 0;farm 9 0;way 0 1 2;way 1 2 1");
        C.due("not by one that has nothing, not where no way goes", 1, x.round(1));
        x = Checks.of("choir 1 24;farm 1 0;farm 2 0;farm 4 0;farm 8 0;farm 16 0;farm 32 0;way 0 1 4;way 1 2 4;way 2 3 4;way 3 4 4;way 4 5 4;way 5 6 4");
        C.due("a chain: how much", 7, x.round(0));
        C.due("a chain: hours", 24, x.round(2));
        x = Checks.of("choir 1 24;farm 1 0;farm 2 0;farm 4 0;farm 8 0;farm 16 0;farm 32 0;way 0 6 4;way 0 3 4;way 1 2 4;way 2 3 4;way 6 5 4;way 5 4 4;way 4 1 4");
        C.due("a ring of seven is too long: there and back", 56, x.round(0));
        C.due("the set there and back", 56, x.round(1));
    }

    private static void falls() {
        BoyBishop x = Checks.of("choir 3 0;canon 99 1;canon 98 1;canon 20 1");
        C.due("in nine", -2, x.falls(0, 9));
        C.due("in ten", 9, x.falls(0, 10));
        C.due("in sixty", 9, x.falls(0, 60));
        C.due("the other in nineteen", -2, x.falls(1, 19));
        C.due("the other in twenty", 19, x.falls(1, 20));
        C.due("a young one", -2, x.falls(2, 60));
        C.due("in none", -1, x.falls(0, 0));
        C.due("in 61", -1, x.falls(0, 61));
        C.due("no such canon", -1, x.falls(3, 5));
        C.due("canon below 0", -1, x.falls(-1, 5));
        Checks.days(x, 9);
        C.due("today", 9, x.falls(0, 1));
        x.day();
        C.due("dead", -1, x.falls(0, 1));
        C.due("the other later", 19, x.falls(1, 10));
        C.due("the other not yet", -2, x.falls(1, 9));
    }

    private static void likely() {
        BoyBishop x = Checks.of(Checks.CHOIR);
        C.due("98 of a thousand", 980, x.likely(0, 1));
        C.due("upwards", 1864, x.likely(0, 2));
        C.due("60 of a thousand", 600, x.likely(1, 1));
        C.due("the second day", 1164, x.likely(1, 2));
        int left = 10000;
        for (int i = 0; i < 60; i++) left = left * 940 / 1000;
        C.due("in sixty days", 10000 - left, x.likely(1, 60));
        C.due("21 of a thousand thrice, upwards", 618, Checks.of("choir 1 0;canon 21 0").likely(0, 3));
        C.due("in none", -1, x.likely(0, 0));
        C.due("in 61", -1, x.likely(0, 61));
        C.due("no such canon", -1, x.likely(2, 1));
        C.due("canon below 0", -1, x.likely(-1, 1));
        Checks.days(x, 19);
        C.due("a year older", 990, x.likely(0, 1));
        x.day();
        C.due("dead", -1, x.likely(0, 1));
    }

    private static void best() {
        BoyBishop x = Checks.of(Checks.CHOIR);
        C.due("who", 1, x.best(0));
        C.due("days till he dies", 400, x.best(1));
        C.due("nothing such", -1, x.best(2));
        C.due("what below 0", -1, x.best(-1));
        x = Checks.of("choir 1 0;canon 99 0;canon 99 1");
        C.due("of several the least", 0, x.best(0));
        C.due("ten days", 10, x.best(1));
        Checks.days(x, 9);
        C.due("one day", 1, x.best(1));
        x.day();
        C.due("none lives", -2, x.best(0));
        C.due("nor dies", -2, x.best(1));
        C.due("no canons", -2, Checks.of("choir 1 0").best(0));
        C.due("one of 20", 800, Checks.of("choir 1 0;canon 20 0").best(1));
    }

    private static void note() {
        BoyBishop x = Checks.of(Checks.CHOIR);
        C.due("a note", 1, x.note(0, 0));
        C.due("nobody", 2, x.note(60, -1));
        C.due("day 61", -2, x.note(61, 0));
        C.due("day below NONE", -2, x.note(-2, 0));
        C.due("no such boy", -2, x.note(0, 3));
        C.due("boy below NONE", -2, x.note(0, -2));
        for (int i = 3; i <= 10; i++) C.due("note " + i, i, x.note(1, 0));
        C.due("an eleventh", -2, x.note(1, 0));
        C.due("ten", 10, x.count(16));
        C.due("none", 0, x.note(-1, 7));
        C.due("there are none then", 0, x.count(16));
        C.due("no act", 0, x.count(17));
    }

    private static void ruled() {
        BoyBishop x = Checks.of(Checks.CHOIR);
        C.due("no rules, no notes", 1, x.ruled(0));
        C.due("none of them", -1, x.ruled(1));
        Checks.rule(x, "vote voice");
        C.due("one rule, no notes", 2, x.ruled(0));
        C.due("none is ahead of 0", -1, x.ruled(1));
        x.note(2, -1);
        C.due("nobody behind day 2 by both", 2, x.ruled(0));
        x.note(0, 2);
        C.due("one rule is so", 1, x.ruled(0));
        C.due("rule 0", 0, x.ruled(1));
        Checks.rule(x, "vote 1 if boy=2 and day<9");
        C.due("two rules are so", 2, x.ruled(0));
        x.note(60, 2);
        C.due("the last day", 1, x.ruled(0));
        x.note(60, 1);
        C.due("none such", 0, x.ruled(0));
        C.due("no first", -2, x.ruled(1));
        C.due("nothing such", -3, x.ruled(2));
        C.due("what below 0", -3, x.ruled(-1));
        x.note(-1, 0);
        x.promise(2, 20);
        x.breaks(0);
        Checks.days(x, 3);
        x.force(1);
        x.note(0, 0);
        x.note(3, 0);
        x.note(4, -1);
        x.note(5, 2);
        C.due("all as the text told it", 1, x.ruled(0));
        C.due("by no rule", -1, x.ruled(1));
        Checks.choir(x, "choir 3 0;boy 9 0 0;boy 8 0 0");
        x.note(0, 0);
        C.due("of another choir", 1, x.ruled(0));
        C.due("rule 0 of another choir", 0, x.ruled(1));
    }

    private static void look() {
        BoyBishop x = Checks.of(Checks.CHOIR);
        C.due("one alone: the day", 0, x.look(0));
        C.due("one alone: how many", 1, x.look(1));
        Checks.rule(x, "vote voice");
        C.due("two", 0, x.look(0));
        C.due("two part", 1, x.look(1));
        Checks.rule(x, "vote voice");
        C.due("two of three are alike", 2, x.look(1));
        Checks.rule(x, "vote voice if day<3;vote share");
        x.note(0, 2);
        C.due("three that are alike till day 3", 3, x.look(0));
        C.due("two of them still are", 2, x.look(1));
        x.note(3, 2);
        C.due("two that never part: the first day", 0, x.look(0));
        C.due("two that never part", 2, x.look(1));
        x.note(3, 0);
        C.due("no rule is so: the day", -2, x.look(0));
        C.due("no rule is so: how many", -2, x.look(1));
        C.due("nothing such", -1, x.look(2));
        C.due("what below 0", -1, x.look(-1));
        x = Checks.of("choir 1 0;boy 9 0 0", "vote 1");
        C.due("a reign of a day: nobody is ever bishop behind one", 2, x.look(1));
        x = Checks.of("choir 40 0;boy 9 0 0", "vote day/60");
        C.due("they part on the last day", 60, x.look(0));
        x = Checks.of("choir 40 0;boy 9 0 0", "vote day");
        C.due("they part on the day behind the first", 1, x.look(0));
        x = Checks.of("choir 40 0;boy 9 0 0", "vote 0", "vote 0", "vote 0", "vote 0", "vote 0", "vote 1");
        C.due("seven by which nobody is bishop, but one", 6, x.look(1));
        x.note(5, 0);
        C.due("the last rule", 5, x.ruled(1));
    }

    private static void seed() {
        BoyBishop x = new BoyBishop();
        C.due("0 at first", 0, x.seed(5));
        C.due("what it was", 5, x.seed(Integer.MAX_VALUE));
        C.due("the greatest", Integer.MAX_VALUE, x.count(18));
        C.due("below 0", -1, x.seed(-1));
        C.due("nothing happened", Integer.MAX_VALUE, x.seed(0));
    }

    private static void winters() {
        BoyBishop x = Checks.of(Checks.CHOIR);
        C.due("p 0: how often", 8, x.winters(2, 9, 0, 0));
        C.due("p 0: how many", 4, x.winters(2, 9, 0, 1));
        C.due("p 100: how often", 0, x.winters(3, 9, 100, 0));
        C.due("p 100: how many", 9, x.winters(3, 9, 100, 1));
        // draws from x 0, mod 100: 0 68 88 17 98 27 45 41 22 10
        C.due("the first draw is below 1", 1, x.winters(1, 1, 1, 1));
        C.due("who is left chooses", 1, x.winters(1, 1, 1, 0));
        C.due("three draws for a day: 0 alone is below 68", 1, x.winters(1, 1, 68, 1));
        C.due("three draws for a day: two are below 69", 2, x.winters(1, 1, 69, 1));
        C.due("draws go on by the next winter", 2, x.winters(2, 1, 18, 1));
        C.due("x stays", 0, x.count(18));
        x = Checks.of("choir 40 0;boy 9 1 0;boy 9 0 0;boy 9 0 0");
        C.due("draws ahead of each day: 0 and 17", 2, x.winters(1, 2, 18, 1));
        C.due("those who are broken draw no more: 0, 17 and 45", 3, x.winters(1, 4, 46, 1));
        x.seed(7);
        // draws from x 7, mod 100: 64 6 68
        x.winters(1, 1, 7, 1);
        C.due("from another x", 1, x.winters(1, 1, 7, 1));
        C.due("not below its own number", 0, x.winters(1, 1, 6, 1));
        for (int[] bad : new int[][] {{0, 1, 0, 0}, {11, 1, 0, 0}, {1, 0, 0, 0}, {1, 61, 0, 0}, {1, 1, -1, 0}, {1, 1, 101, 0}, {1, 1, 0, 2}, {1, 1, 0, -1}}) {
            C.due("winters" + java.util.Arrays.toString(bad), -1, x.winters(bad[0], bad[1], bad[2], bad[3]));
        }
        C.due("a voice of 1 breaks, too", 1, Checks.of("choir 1 0;boy 1 0 0").winters(1, 1, 1, 1));
        C.due("the most of all", 20, x.winters(10, 60, 0, 0));
    }

    private static void nothingChanges() {
        BoyBishop x = Checks.days(Checks.of(Checks.CHOIR, "vote voice-share"), 1);
        x.seed(3);
        x.note(0, 1);
        int[] before = all(x);
        for (int boy = 0; boy < 3; boy++) {
            x.ahead(boy, 60, 0);
            x.votes(boy, 0);
            x.method(boy);
            x.least(boy);
            x.winOver(boy, 1);
            x.rests(boy, (boy + 1) % 3, 0);
            x.round(boy);
            x.falls(boy, 60);
            x.likely(boy, 60);
            x.best(boy);
            x.ruled(boy);
            x.look(boy);
            x.winters(5, 50, 10, 0);
        }
        int[] after = all(x);
        for (int i = 0; i < before.length; i++) C.due("what was asked changed " + i, before[i], after[i]);
    }

    private static int[] all(BoyBishop x) {
        int[] row = new int[60];
        int size = 0;
        for (int what = 0; what < 20; what++) row[size++] = x.count(what);
        for (int what = 0; what < 4; what++) {
            for (int boy = 0; boy < 3; boy++) row[size++] = x.boy(boy, what);
            for (int i = 0; i < 2; i++) row[size++] = x.canon(i, what);
            for (int i = 0; i < 2; i++) row[size++] = x.farm(i, what);
        }
        return row;
    }
}
