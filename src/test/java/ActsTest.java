/** Promises 7 to 16: what is told of boys, canons and farms, and the acts. */
public final class ActsTest {
    private static final Checks C = new Checks("ActsTest");
    private static final String OLD = "choir 40 0;boy 9 1 0;canon 99 7;canon 50 1;canon 99 0;canon 98 5";

    private ActsTest() { }

    public static void main(String[] args) {
        boy();
        likes();
        canon();
        farm();
        day();
        lastDay();
        reign();
        snowAndFarms();
        visit();
        promise();
        give();
        breaks();
        undo();
        C.finish();
    }

    private static void boy() {
        BoyBishop x = Checks.of(Checks.CHOIR);
        int[][] due = {{9, 5, 2, 0}, {4, 10, 1, 0}, {20, 0, 0, 0}};
        for (int boy = 0; boy < 3; boy++) {
            for (int what = 0; what < 4; what++) C.due("boy(" + boy + ", " + what + ")", due[boy][what], x.boy(boy, what));
        }
        C.due("no such boy", -1, x.boy(3, 0));
        C.due("boy below 0", -1, x.boy(-1, 0));
        C.due("nothing such of a boy", -1, x.boy(0, 4));
        C.due("what below 0", -1, x.boy(0, -1));
        x.day();
        C.due("voice is fade less", 7, x.boy(0, 0));
        C.due("this time too", 1, x.boy(0, 3));
        Checks.days(x, 3);
        C.due("broken", 0, x.boy(1, 0));
        C.due("twice", 2, x.boy(0, 3));
        C.due("never", 0, x.boy(1, 3));
    }

    private static void likes() {
        BoyBishop x = Checks.of(Checks.CHOIR);
        C.due("likes told", 8, x.likes(1, 0));
        C.due("the other way round", 3, x.likes(0, 1));
        C.due("himself", 4, x.likes(2, 2));
        C.due("not told", 0, x.likes(0, 2));
        C.due("no such boy", -1, x.likes(3, 0));
        C.due("no such other", -1, x.likes(0, 3));
        C.due("boy below 0", -1, x.likes(-1, 0));
        C.due("other below 0", -1, x.likes(0, -1));
    }

    private static void canon() {
        BoyBishop x = Checks.of(OLD);
        C.due("age", 99, x.canon(0, 0));
        C.due("prebend", 7, x.canon(0, 1));
        C.due("not free", 0, x.canon(0, 2));
        C.due("given nobody's", -1, x.canon(0, 3));
        C.due("no such canon", -2, x.canon(4, 0));
        C.due("canon below 0", -2, x.canon(-1, 0));
        C.due("nothing such", -2, x.canon(0, 4));
        C.due("what below 0", -2, x.canon(0, -1));
        Checks.days(x, 9);
        C.due("before the year is over", 99, x.canon(0, 0));
        x.day();
        C.due("dead", 100, x.canon(0, 0));
        C.due("free", 1, x.canon(0, 2));
        C.due("a prebend of 0 is free, too", 1, x.canon(2, 2));
        C.due("a year older", 51, x.canon(1, 0));
        C.due("free ones", 5, x.count(14));
        Checks.days(x, 10);
        C.due("dead stays dead", 100, x.canon(0, 0));
        C.due("dead a year later", 100, x.canon(3, 0));
        C.due("free ones then", 13, x.count(14));
    }

    private static void farm() {
        BoyBishop x = Checks.of("choir 3 10;farm 20 5;farm 10 2;farm 7 1;farm 0 9;way 0 1 2;way 1 2 9;way 2 1 1;way 0 2 12;way 3 4 1");
        C.due("gift", 20, x.farm(0, 0));
        C.due("more", 5, x.farm(0, 1));
        C.due("laid by", 20, x.farm(0, 2));
        C.due("hours", 2, x.farm(0, 3));
        C.due("hours by the shortest ways, of the last told", 3, x.farm(1, 3));
        C.due("no way", -1, x.farm(2, 3));
        C.due("no way, either", -1, x.farm(3, 3));
        C.due("no such farm", -2, x.farm(4, 0));
        C.due("farm below 0", -2, x.farm(-1, 0));
        C.due("nothing such", -2, x.farm(0, 4));
        C.due("what below 0", -2, x.farm(0, -1));
    }

    private static void day() {
        BoyBishop x = Checks.of(Checks.CHOIR);
        int[] bishops = {0, 0, -1, 0, -1, 2, 2, -1, 2, 2, -1};
        int[] firsts = {0, 0, -1, 3, -1, 5, 5, -1, 8, 8, -1};
        for (int i = 0; i < bishops.length; i++) {
            C.due("day " + i, bishops[i], x.day());
            C.due("bishop behind day " + i, bishops[i], x.count(8));
            C.due("his first day behind day " + i, firsts[i], x.count(9));
            C.due("day behind day " + i, i + 1, x.count(7));
        }
        C.due("broken", 3, x.count(15));
        C.due("a year older", 99, x.canon(0, 0));
        x = Checks.of("choir 1 0;boy 9 0 0;boy 9 0 0", "vote boy");
        C.due("a reign of a day", -1, x.day());
        C.due("was bishop all the same", 1, x.boy(1, 3));
        x = Checks.of("choir 5 0;boy 9 0 9;boy 9 0 0", "vote 2-boy");
        C.due("a voice that breaks on the first day", -1, x.day());
        C.due("the next one", 1, x.day());
        x = Checks.of("choir 40 0;boy 9 0 0");
        C.due("nobody is wanted", -1, x.day());
        C.due("nobody was bishop", 0, x.boy(0, 3));
        C.due("all voices broken", -1, Checks.days(Checks.of("choir 40 0;boy 1 5 1"), 3).day());
    }

    /** Beyond the calls that an object is used for, but told. */
    private static void lastDay() {
        BoyBishop x = Checks.days(Checks.of("choir 40 0;boy 9 1 0;canon 20 1"), 998);
        C.due("day 998", 0, x.day());
        C.due("day 999", 999, x.count(7));
        C.due("no day any more", -2, x.day());
        C.due("it stays", 999, x.count(7));
        C.due("days that are asked go on", -1, x.ahead(0, 1, 0));
    }

    private static void reign() {
        BoyBishop x = Checks.of("choir 40 0;boy 9 1 0");
        for (int i = 0; i < 39; i++) C.due("day " + i + " of 40", 0, x.day());
        C.due("the last day of 40", -1, x.day());
        C.due("the first of the next 40", 0, x.day());
        C.due("his first day", 40, x.count(9));
    }

    private static void snowAndFarms() {
        BoyBishop x = Checks.of("choir 40 20;boy 9 1 0;farm 10 4;farm 3 0;way 0 1 1;way 0 2 1;snow 2;snow 60");
        x.day();
        C.due("no snow", 0, x.count(13));
        x.visit(0);
        C.due("nothing laid by", 0, x.farm(0, 2));
        x.day();
        C.due("laid by again", 4, x.farm(0, 2));
        C.due("snow", 1, x.count(13));
        x.visit(1);
        x.day();
        C.due("nothing more by snow", 4, x.farm(0, 2));
        x.day();
        C.due("more", 8, x.farm(0, 2));
        x.day();
        C.due("at most the gift", 10, x.farm(0, 2));
        C.due("a farm without more", 0, x.farm(1, 2));
        Checks.days(x, 55);
        C.due("the last day that snow is told of", 1, x.count(13));
    }

    private static void visit() {
        BoyBishop x = Checks.of(Checks.CHOIR);
        C.due("no bishop", -1, x.visit(0));
        x.day();
        C.due("too far by snow", -1, x.visit(1));
        C.due("no such farm", -1, x.visit(2));
        C.due("farm below 0", -1, x.visit(-1));
        C.due("nothing happened", 0, x.count(12));
        C.due("no act", 1, x.count(17));
        C.due("20 less 5 of a hundred", 19, x.visit(0));
        C.due("chest", 19, x.count(10));
        C.due("to the boys", 1, x.count(11));
        C.due("out", 1, x.count(12));
        C.due("it has nothing", 0, x.farm(0, 2));
        C.due("twice on a day", -1, x.visit(0));
        x.day();
        C.due("not out on the next day", 0, x.count(12));
        x.promise(0, 11);
        C.due("10 less 11 of a hundred, upwards", 8, x.visit(1));
        C.due("chest then", 27, x.count(10));
        C.due("to the boys then", 3, x.count(11));
        x = Checks.days(Checks.of("choir 9 4;boy 9 17 0;farm 60 5;way 0 1 2"), 1);
        C.due("60 less 17 of a hundred, upwards", 49, x.visit(0));
        x = Checks.days(Checks.of("choir 9 4;boy 9 20 0;farm 60 5;way 0 1 2"), 1);
        C.due("60 less 20 of a hundred", 48, x.visit(0));
        x = Checks.days(Checks.of("choir 9 4;boy 9 1 0;farm 1 5;way 0 1 2"), 1);
        C.due("1 less 1 of a hundred, upwards", 0, x.visit(0));
        x = Checks.of("choir 9 4;boy 9 0 0;farm 20 5;farm 20 5;farm 9 0;way 0 1 2;way 0 2 3;snow 3", "vote 1");
        x.day();
        C.due("six hours of four", -1, x.visit(1));
        C.due("no way", -1, x.visit(2));
        x.breaks(0);
        C.due("four hours of four, by a bishop whose voice is broken", 20, x.visit(0));
        x = Checks.days(Checks.of("choir 9 8;boy 9 20 0;farm 20 5;farm 20 5;way 0 1 2;way 0 2 3;snow 1"), 1);
        C.due("twelve hours of eight by snow", -1, x.visit(1));
        C.due("eight hours of eight by snow", 16, x.visit(0));
        C.due("of the five that came behind the snow the boys have one", 4, Checks.days(x, 2).visit(0));
    }

    private static void promise() {
        BoyBishop x = Checks.of(Checks.CHOIR);
        C.due("which it was", 5, x.promise(0, 20));
        C.due("which it is", 20, x.boy(0, 1));
        C.due("0", 20, x.promise(0, 0));
        C.due("more than 20", -1, x.promise(0, 21));
        C.due("below 0", -1, x.promise(0, -1));
        C.due("no such boy", -1, x.promise(3, 5));
        C.due("boy below 0", -1, x.promise(-1, 5));
        C.due("nothing happened", 2, x.count(17));
        x.breaks(1);
        C.due("one whose voice is broken may, too", 10, x.promise(1, 3));
        C.due("the share that he has is not another one", -1, x.promise(1, 3));
        C.due("no act by it", 4, x.count(17));
        C.due("undone is the promise ahead of it", 3, x.undo());
        C.due("the one he has again", -1, x.promise(1, 10));
        C.due("what was undone is another one again", 10, x.promise(1, 3));
    }

    private static void give() {
        BoyBishop x = Checks.of(OLD);
        C.due("no bishop, none free", -1, x.give(0, 1));
        Checks.days(x, 10);
        C.due("not free", -1, x.give(1, 3));
        C.due("to one who is dead", -1, x.give(0, 2));
        C.due("to himself", -1, x.give(0, 0));
        C.due("no such from", -1, x.give(4, 1));
        C.due("from below 0", -1, x.give(-1, 1));
        C.due("no such canon", -1, x.give(0, 4));
        C.due("canon below 0", -1, x.give(0, -1));
        C.due("nothing happened", 5, x.count(14));
        C.due("the prebend", 7, x.give(0, 3));
        C.due("no more free", 0, x.canon(0, 2));
        C.due("whose he was given", 0, x.canon(3, 3));
        C.due("free ones", 4, x.count(14));
        C.due("twice", -1, x.give(0, 1));
        C.due("another one", 0, x.give(2, 3));
        C.due("the last given", 2, x.canon(3, 3));
        C.due("his own stays as it was", 5, x.canon(3, 1));
        Checks.days(x, 10);
        C.due("his own alone is free when he dies", 8, x.count(14));
        x = Checks.days(Checks.of("choir 1 0;boy 9 1 0;canon 99 7;canon 50 1"), 10);
        C.due("no bishop", -1, x.give(0, 1));
    }

    private static void breaks() {
        BoyBishop x = Checks.of(Checks.CHOIR);
        x.day();
        C.due("the voice he had", 7, x.breaks(0));
        C.due("broken", 0, x.boy(0, 0));
        C.due("twice", -1, x.breaks(0));
        C.due("no such boy", -1, x.breaks(3));
        C.due("boy below 0", -1, x.breaks(-1));
        C.due("one act", 2, x.count(17));
        C.due("bishop till the day's end", 0, x.count(8));
        C.due("none behind it", -1, x.day());
        C.due("broken ones", 1, x.count(15));
    }

    private static void undo() {
        BoyBishop x = Checks.of(Checks.CHOIR);
        C.due("none", -1, x.undo());
        x.day();
        x.visit(0);
        x.promise(1, 15);
        x.breaks(2);
        Checks.rule(x, "vote 1");
        x.force(0);
        x.seed(9);
        x.note(0, 0);
        C.due("acts", 4, x.count(17));
        C.due("the voice comes back", 3, x.undo());
        C.due("as it was", 20, x.boy(2, 0));
        C.due("the promise is none", 2, x.undo());
        C.due("share as it was", 10, x.boy(1, 1));
        C.due("the visit was none", 1, x.undo());
        C.due("laid by as it was", 20, x.farm(0, 2));
        C.due("chest as it was", 0, x.count(10));
        C.due("to the boys as it was", 0, x.count(11));
        C.due("not out", 0, x.count(12));
        C.due("the day was none", 0, x.undo());
        C.due("day 0", 0, x.count(7));
        C.due("no bishop", -1, x.count(8));
        C.due("voice of day 0", 9, x.boy(0, 0));
        C.due("never bishop", 0, x.boy(0, 3));
        C.due("no more", -1, x.undo());
        C.due("the rule in force stays", 0, x.count(6));
        C.due("x stays", 9, x.count(18));
        C.due("notes stay", 1, x.count(16));
        for (int i = 0; i < 25; i++) x.promise(0, i % 20);
        C.due("twenty at most", 20, x.count(17));
        for (int i = 19; i >= 0; i--) C.due("one of twenty undone", i, x.undo());
        C.due("the twenty-first", -1, x.undo());
        C.due("the five ahead of them stay", 4, x.boy(0, 1));
        x = Checks.days(Checks.of(OLD), 10);
        x.give(0, 1);
        x.undo();
        C.due("free again", 5, x.count(14));
        C.due("given nobody's", -1, x.canon(1, 3));
        x.undo();
        C.due("he lives", 99, x.canon(0, 0));
        C.due("none free", 0, x.count(14));
    }
}
