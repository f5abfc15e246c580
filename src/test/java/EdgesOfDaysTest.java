/** The edges of part II, a vote, a day and the acts, and those of promises 7 to 16: each on both its sides. */
public final class EdgesOfDaysTest {
    private static final Checks C = new Checks("EdgesOfDaysTest");
    private static final int MOST = Integer.MAX_VALUE;
    private static final int LEAST = Integer.MIN_VALUE;

    private EdgesOfDaysTest() { }

    public static void main(String[] args) {
        aboveZero();
        aboveZeroWithoutARule();
        ofSeveralTheLeast();
        brokenBoysVoteButHaveNoVotes();
        votesOnlyWithoutABishop();
        firstDay();
        laidByAtMostGift();
        snowLaysNothing();
        voicesBelowOne();
        reigns();
        bishopWhoseVoiceBreaks();
        yearsAtNine();
        hundredDies();
        dayWithoutAChoir();
        theLastDayByHand();
        boyAndWhat();
        likesAndOthers();
        canonAndWhat();
        farmAndWhat();
        visitInHours();
        visitBySnow();
        visitOncePerDay();
        shareUpwards();
        visitRefused();
        promiseFromNoneToTwenty();
        promiseOfTheSame();
        giveRefused();
        giveOnce();
        breakOnce();
        twentyUndone();
        refusedActsAreNoActs();
        C.finish();
    }

    /** "is greatest, if it is above 0" */
    private static void aboveZero() {
        String two = "choir 9 0;boy 9 0 0;boy 9 0 0";
        C.due("a sum of 1", 1, Checks.of(two, "vote boy").votes(0, 0));
        C.due("a sum of 0", -1, Checks.of(two, "vote 0").votes(0, 0));
        C.due("a sum of -1", -1, Checks.of(two, "vote 0-1").votes(0, 0));
        C.due("nobody is chosen", -1, Checks.of(two, "vote 0").day());
        C.due("who is chosen by one vote", 1, Checks.of(two, "vote 1 if boy=1 and voter=0").day());
    }

    /** "without a RULE for the one of greatest LIKES and SHARE together, if that is above 0, likewise" */
    private static void aboveZeroWithoutARule() {
        C.due("likes of 1", 0, Checks.of("choir 9 0;boy 9 0 0;likes 0 0 1").votes(0, 0));
        C.due("a share of 1", 0, Checks.of("choir 9 0;boy 9 1 0").votes(0, 0));
        C.due("neither", -1, Checks.of("choir 9 0;boy 9 0 0").votes(0, 0));
        C.due("together they are as much: the least", 0, Checks.of("choir 9 0;boy 9 3 0;boy 9 1 0;likes 0 1 2").votes(0, 0));
        C.due("together they are more", 1, Checks.of("choir 9 0;boy 9 3 0;boy 9 1 0;likes 0 1 3").votes(0, 0));
        C.due("20 and 20", 1, Checks.of("choir 9 0;boy 9 20 0;boy 9 20 0;likes 0 0 19;likes 0 1 20").votes(0, 0));
    }

    /** "of several the least", of those who are voted for and of those who have most votes; "nobody, if there are none" */
    private static void ofSeveralTheLeast() {
        String six = "choir 9 0" + ";boy 9 0 0".repeat(6);
        C.due("all alike: voted for", 0, Checks.of(six, "vote 1").votes(5, 0));
        C.due("all but the first: voted for", 1, Checks.of(six, "vote 1 if boy>0").votes(5, 0));
        C.due("each for himself: chosen", 0, Checks.of(six, "vote same").votes(5, 2));
        C.due("three and three: chosen", 2, Checks.of(six, "vote 1 if boy=5 and voter<3;vote 1 if boy=2 and voter>2").votes(5, 2));
        C.due("two and three: chosen", 5, Checks.of(six, "vote 1 if boy=5 and voter<3;vote 1 if boy=2 and voter>3").votes(5, 2));
        C.due("none vote: chosen", -1, Checks.of(six, "vote 0").votes(5, 2));
        C.due("six votes", 6, Checks.of(six, "vote boy").votes(5, 1));
    }

    /** "each BOY, BROKEN or not, by numbers, votes for the BOY whose voice is not BROKEN" */
    private static void brokenBoysVoteButHaveNoVotes() {
        BoyBishop x = Checks.of("choir 9 0;boy 9 0 0;boy 9 0 0;boy 9 0 0", "vote 9-boy");
        x.breaks(0);
        C.due("one who is broken votes", 1, x.votes(0, 0));
        C.due("for none who is broken", 1, x.votes(1, 0));
        C.due("who has none", 0, x.votes(0, 1));
        C.due("all three vote", 3, x.votes(1, 1));
        C.due("chosen", 1, x.day());
        x.breaks(1);
        x.breaks(2);
        C.due("nobody is left", -1, x.votes(0, 0));
        C.due("nobody is chosen", -1, x.votes(0, 2));
    }

    /** "(1) if there is no BISHOP, there is a VOTE" */
    private static void votesOnlyWithoutABishop() {
        BoyBishop x = Checks.of("choir 3 0;boy 9 0 0;boy 9 0 0", "vote boy", "vote 1-boy");
        C.due("the first day", 0, x.day());
        x.force(0);
        C.due("who would be chosen", 1, x.votes(0, 2));
        C.due("the bishop stays", 0, x.day());
        C.due("till his reign is over", -1, x.day());
        C.due("then the other", 1, x.day());
        C.due("each was it once", 1, x.boy(0, 3));
        C.due("and so was he", 1, x.boy(1, 3));
    }

    /** "who is chosen is BISHOP from this DAY on, and his FIRST DAY is this one" */
    private static void firstDay() {
        BoyBishop x = Checks.of("choir 2 0;boy 9 0 0", "vote day/3");
        int[] bishops = {-1, -1, -1, 0, -1, 0, -1};
        int[] firsts = {-1, -1, -1, 3, -1, 5, -1};
        for (int day = 0; day < 7; day++) {
            C.due("behind day " + day, bishops[day], x.day());
            C.due("his first day", firsts[day], x.count(9));
            C.due("the bishop", bishops[day], x.count(8));
        }
        C.due("twice", 2, x.boy(0, 3));
    }

    /** "(2) Each FARM has MORE more laid by, GIFT at most" */
    private static void laidByAtMostGift() {
        BoyBishop x = Checks.of("choir 40 24;boy 9 0 0;farm 12 4;farm 11 4;farm 13 4;farm 60 0;farm 0 9;way 0 1 1;way 0 2 1;way 0 3 1;way 0 4 1", "vote 1");
        x.day();
        C.due("full farms stay", 12, x.farm(0, 2));
        C.due("a gift of 0", 0, x.farm(4, 2));
        for (int farm = 0; farm < 4; farm++) {
            x.visit(farm);
            x.day();
        }
        int[][] due = {{12, 11, 8, 0, 0}, {12, 11, 12, 0, 0}, {12, 11, 13, 0, 0}, {12, 11, 13, 0, 0}};
        for (int day = 0; day < 4; day++) {
            for (int farm = 0; farm < 5; farm++) C.due("farm " + farm + " on day " + (5 + day), due[day][farm], x.farm(farm, 2));
            x.day();
        }
        x = Checks.of("choir 40 24;boy 9 0 0;farm 8 4;farm 7 4;farm 9 4;way 0 1 1;way 0 2 1;way 0 3 1", "vote 1");
        x.day();
        x.visit(0);
        C.due("behind two days", 8, x.ahead(0, 2, 2));
        C.due("behind one day", 4, x.ahead(0, 1, 2));
        C.due("behind three days", 8, x.ahead(0, 3, 2));
    }

    /** "none on a DAY of SNOW" */
    private static void snowLaysNothing() {
        BoyBishop x = Checks.of("choir 40 24;boy 9 0 0;farm 60 5;way 0 1 1;snow 2;snow 3;snow 60", "vote 1");
        x.day();
        x.visit(0);
        int[] laid = {0, 5, 5, 5, 10, 15};
        int[] snow = {0, 1, 1, 0, 0, 0};
        for (int i = 0; i < laid.length; i++) {
            C.due("laid by on day " + (i + 1), laid[i], x.farm(0, 2));
            C.due("snow on day " + (i + 1), snow[i], x.count(13));
            x.day();
        }
    }

    /** "(3) Each voice that is not BROKEN is FADE less; one that is below 1 is BROKEN (0)." */
    private static void voicesBelowOne() {
        BoyBishop x = Checks.of("choir 9 0;boy 9 0 9;boy 10 0 9;boy 8 0 9;boy 1 0 0;boy 1 0 1;boy 99 0 0");
        int[] behind = {0, 1, 0, 1, 0, 99};
        x.day();
        for (int boy = 0; boy < 6; boy++) C.due("voice " + boy, behind[boy], x.boy(boy, 0));
        C.due("broken", 1 + 4 + 16, x.count(15));
        x.day();
        C.due("one of 1 is broken by 9", 0, x.boy(1, 0));
        C.due("a broken one stays 0", 0, x.boy(2, 0));
        C.due("broken then", 1 + 2 + 4 + 16, x.count(15));
        Checks.days(x, 100);
        C.due("without fade none breaks", 1, x.boy(3, 0));
        C.due("broken at last", 1 + 2 + 4 + 16, x.count(15));
    }

    /** "(4) The BISHOP is none any more, if ... REIGN days have gone by, his FIRST one too." */
    private static void reigns() {
        for (int reign = 1; reign <= 40; reign++) {
            BoyBishop x = Checks.of("choir " + reign + " 0;boy 9 1 0");
            for (int day = 0; day < 2 * reign; day++) C.due("reign " + reign + ", day " + day, (day + 1) % reign == 0 ? -1 : 0, x.day());
            C.due("reign " + reign + ": twice bishop", 2, x.boy(0, 3));
            C.due("reign " + reign + ": and once more", reign == 1 ? -1 : 0, x.day());
        }
    }

    /** "The BISHOP is none any more, if his voice is BROKEN"; "(The BISHOP is BISHOP till the DAY's end.)" */
    private static void bishopWhoseVoiceBreaks() {
        BoyBishop x = Checks.of("choir 40 9;boy 5 9 2;boy 9 0 0;farm 50 0;way 0 1 1", "vote 2-boy");
        C.due("voice 3", 0, x.day());
        C.due("voice 1", 0, x.day());
        C.due("voice 0", -1, x.day());
        C.due("the other, from the next day on", 1, x.day());
        C.due("first day", 3, x.count(9));
        x.breaks(1);
        C.due("still bishop", 1, x.count(8));
        C.due("and goes out", 50, x.visit(0));
        C.due("till the day's end", -1, x.day());
        C.due("nobody is left", -1, x.day());
        C.due("another's broken voice is nothing to the bishop", 1, breakAnother());
    }

    private static int breakAnother() {
        BoyBishop x = Checks.of("choir 40 9;boy 9 0 0;boy 9 0 0", "vote boy");
        x.day();
        x.breaks(0);
        return x.day();
    }

    /** "(5) CANONS who live grow older by a year, if DAY % 10 is 9" */
    private static void yearsAtNine() {
        BoyBishop x = Checks.of("choir 1 0;canon 20 0;canon 97 0");
        for (int day = 0; day < 45; day++) {
            C.due("age on day " + day, 20 + day / 10, x.canon(0, 0));
            C.due("age of the other on day " + day, Math.min(100, 97 + day / 10), x.canon(1, 0));
            C.due("free on day " + day, day < 30 ? 0 : 2, x.count(14));
            x.day();
        }
    }

    /** "one of 100 dies: his PREBEND is free" */
    private static void hundredDies() {
        BoyBishop x = Checks.of("choir 1 0;canon 99 9;canon 98 0;canon 99 0;canon 20 99");
        Checks.days(x, 9);
        C.due("on day 9 all live", 0, x.count(14));
        C.due("he is 99", 99, x.canon(0, 0));
        x.day();
        C.due("behind it two are dead", 5, x.count(14));
        C.due("he is 100", 100, x.canon(0, 0));
        C.due("his is free", 1, x.canon(0, 2));
        C.due("99 is not 100", 99, x.canon(1, 0));
        C.due("his is not free", 0, x.canon(1, 2));
        C.due("the prebend is as told", 9, x.canon(0, 1));
        Checks.days(x, 30);
        C.due("no dead one grows older", 100, x.canon(0, 0));
        C.due("three are dead", 7, x.count(14));
    }

    /** "-2, and nothing happens, without a CHOIR" */
    private static void dayWithoutAChoir() {
        BoyBishop x = new BoyBishop();
        C.due("without a choir", -2, x.day());
        C.due("day 0", 0, x.count(7));
        C.due("no act", 0, x.count(17));
        Checks.choir(x, "choir 1 0");
        C.due("a choir of nobody", -1, x.day());
        C.due("day 1", 1, x.count(7));
        C.due("an act", 1, x.count(17));
    }

    /** "DAY is 1 more (999 at most by hand; DAYS that are asked go on beyond)": more calls than an object is used for */
    private static void theLastDayByHand() {
        BoyBishop x = Checks.days(Checks.of("choir 2 0;boy 9 1 0;canon 20 1;farm 60 1"), 998);
        C.due("day 998", 998, x.count(7));
        C.due("the day that can be", 0, x.day());
        C.due("day 999", 999, x.count(7));
        C.due("acts", 20, x.count(17));
        C.due("the day that can't be", -2, x.day());
        C.due("day 999 still", 999, x.count(7));
        C.due("bishop still", 0, x.count(8));
        C.due("acts still", 20, x.count(17));
        C.due("ahead of it he is bishop", 0, x.ahead(0, 2, 0));
        C.due("and not the day ahead of that", -1, x.ahead(0, 1, 0));
        C.due("a vote on every second day of a winter", 30, x.winters(1, 60, 0, 0));
        C.due("undone", 19, x.undo());
        C.due("and a day again", 0, x.day());
    }

    private static void boyAndWhat() {
        BoyBishop x = Checks.of("choir 9 0;boy 9 8 7;boy 6 5 4");
        for (int bad : new int[] {-1, 2, 6, MOST, LEAST}) {
            for (int what = 0; what < 4; what++) C.due("boy(" + bad + ", " + what + ")", -1, x.boy(bad, what));
        }
        for (int bad : new int[] {-1, 4, MOST, LEAST}) C.due("boy(1, " + bad + ")", -1, x.boy(1, bad));
        int[] due = {6, 5, 4, 0};
        for (int what = 0; what < 4; what++) C.due("boy(1, " + what + ")", due[what], x.boy(1, what));
        x.breaks(1);
        C.due("broken: 0, not NONE", 0, x.boy(1, 0));
        C.due("his share is told still", 5, x.boy(1, 1));
    }

    private static void likesAndOthers() {
        BoyBishop x = Checks.of("choir 9 0;boy 9 8 7;boy 6 5 4;likes 1 1 20");
        for (int bad : new int[] {-1, 2, 6, MOST, LEAST}) {
            C.due("likes(" + bad + ", 0)", -1, x.likes(bad, 0));
            C.due("likes(0, " + bad + ")", -1, x.likes(0, bad));
        }
        C.due("himself", 20, x.likes(1, 1));
        C.due("without", 0, x.likes(0, 0));
        x.breaks(1);
        C.due("one whose voice is broken", 20, x.likes(1, 1));
    }

    private static void canonAndWhat() {
        BoyBishop x = Checks.of("choir 9 0;canon 99 98;canon 20 0");
        for (int bad : new int[] {-1, 2, 4, MOST, LEAST}) {
            for (int what = 0; what < 4; what++) C.due("canon(" + bad + ", " + what + ")", -2, x.canon(bad, what));
        }
        for (int bad : new int[] {-1, 4, MOST, LEAST}) C.due("canon(1, " + bad + ")", -2, x.canon(1, bad));
        int[] due = {99, 98, 0, -1};
        for (int what = 0; what < 4; what++) C.due("canon(0, " + what + ")", due[what], x.canon(0, what));
    }

    private static void farmAndWhat() {
        BoyBishop x = Checks.of("choir 9 0;farm 60 9;farm 1 2;way 0 2 12");
        for (int bad : new int[] {-1, 2, 6, MOST, LEAST}) {
            for (int what = 0; what < 4; what++) C.due("farm(" + bad + ", " + what + ")", -2, x.farm(bad, what));
        }
        for (int bad : new int[] {-1, 4, MOST, LEAST}) C.due("farm(1, " + bad + ")", -2, x.farm(1, bad));
        int[][] due = {{60, 9, 60, -1}, {1, 2, 1, 12}};
        for (int what = 0; what < 4; what++) {
            C.due("farm(0, " + what + ")", due[0][what], x.farm(0, what));
            C.due("farm(1, " + what + ")", due[1][what], x.farm(1, what));
        }
    }

    /** "a FARM from which he is home again in HOURS, by the shortest ways" */
    private static void visitInHours() {
        for (int hours = 0; hours <= 24; hours++) {
            for (int way = 1; way <= 12; way++) {
                BoyBishop x = Checks.of("choir 9 " + hours + ";boy 9 0 0;farm 7 0;farm 8 0;way 0 1 " + way + ";way 1 2 1", "vote 1");
                x.day();
                C.due(way + " hours there, " + hours + " a day", 2 * way <= hours ? 7 : -1, x.visit(0));
                C.due("out", 2 * way <= hours ? 1 : 0, x.count(12));
                if (2 * way > hours) C.due("an hour farther on", -1, x.visit(1));
                x.day();
                C.due("an hour farther on, next day", 2 * way + 2 <= hours ? 8 : -1, x.visit(1));
            }
        }
    }

    /** "twice as long on a DAY of SNOW" */
    private static void visitBySnow() {
        for (int hours = 0; hours <= 24; hours++) {
            for (int way = 1; way <= 12; way++) {
                BoyBishop x = Checks.of("choir 9 " + hours + ";boy 9 0 0;farm 7 0;way 0 1 " + way + ";snow 1", "vote 1");
                x.day();
                C.due(way + " hours there by snow, " + hours + " a day", 4 * way <= hours ? 7 : -1, x.visit(0));
            }
        }
    }

    /** "there is a BISHOP who has not been out this DAY" */
    private static void visitOncePerDay() {
        BoyBishop x = Checks.of("choir 3 9;boy 9 0 0;farm 7 0;farm 8 0;way 0 1 1;way 0 2 1", "vote 1");
        C.due("no bishop", -1, x.visit(0));
        x.day();
        C.due("once", 7, x.visit(0));
        C.due("twice, to the same", -1, x.visit(0));
        C.due("twice, to another", -1, x.visit(1));
        C.due("nothing happened", 8, x.farm(1, 2));
        x.day();
        C.due("next day", 8, x.visit(1));
        x.undo();
        C.due("undone: he has not been out", 8, x.visit(1));
        x.day();
        C.due("the reign is over", -1, x.visit(0));
        x.day();
        C.due("a farm that has nothing", 0, x.visit(0));
        C.due("he has been out", 1, x.count(12));
        C.due("the chest", 15, x.count(10));
    }

    /** "less SHARE of a hundred of it, upwards, which goes to the BOYS" */
    private static void shareUpwards() {
        for (int gift = 0; gift <= 60; gift++) {
            for (int share = 0; share <= 20; share++) {
                BoyBishop x = Checks.of("choir 9 2;boy 9 " + share + " 0;farm " + gift + " 0;way 0 1 1", "vote 1");
                x.day();
                int toBoys = 0;
                while (toBoys * 100 < gift * share) toBoys++;
                C.due(share + " of a hundred of " + gift, gift - toBoys, x.visit(0));
                C.due("the chest", gift - toBoys, x.count(10));
                C.due("to the boys", toBoys, x.count(11));
                C.due("it has nothing then", 0, x.farm(0, 2));
            }
        }
    }

    private static void visitRefused() {
        BoyBishop x = Checks.days(Checks.of("choir 9 24;boy 9 3 0;farm 7 0;farm 8 0;way 0 1 12"), 1);
        for (int bad : new int[] {-1, 2, 6, MOST, LEAST}) C.due("visit(" + bad + ")", -1, x.visit(bad));
        C.due("no way", -1, x.visit(1));
        C.due("one act, the day", 1, x.count(17));
        C.due("not out", 0, x.count(12));
        C.due("the farthest", 6, x.visit(0));
    }

    /** "PROMISE (a BOY another SHARE, 0 to 20)" */
    private static void promiseFromNoneToTwenty() {
        BoyBishop x = Checks.of("choir 9 0;boy 9 7 0;boy 9 8 0");
        int was = 7;
        for (int share = 0; share <= 20; share++) {
            C.due("promise " + share, was, x.promise(0, share));
            C.due("is " + share, share, x.boy(0, 1));
            C.due(share + " is not another one", -1, x.promise(0, share));
            was = share;
        }
        for (int bad : new int[] {-1, 21, MOST, LEAST}) C.due("promise " + bad, -1, x.promise(0, bad));
        for (int bad : new int[] {-1, 2, MOST, LEAST}) C.due("promise of " + bad, -1, x.promise(bad, 5));
        C.due("nothing happened", 20, x.boy(0, 1));
        C.due("nor to the other", 8, x.boy(1, 1));
        C.due("acts", 20, x.count(17));
    }

    /** "a BOY another SHARE": not the one that he has, by whatever he came to it */
    private static void promiseOfTheSame() {
        BoyBishop x = Checks.of("choir 9 0;boy 9 0 0;boy 9 20 0;boy 9 7 9");
        C.due("0, as the text told it", -1, x.promise(0, 0));
        C.due("20, as the text told it", -1, x.promise(1, 20));
        C.due("no act", -1, x.undo());
        C.due("another boy's share is another one", 7, x.promise(2, 20));
        C.due("his own is not", -1, x.promise(2, 20));
        C.due("what he had is another one", 20, x.promise(2, 7));
        C.due("two acts", 2, x.count(17));
        x.day();
        C.due("broken: the one that he has", -1, x.promise(2, 7));
        C.due("broken: another one", 7, x.promise(2, 6));
        C.due("image", 1, x.image(0));
        x.promise(2, 5);
        C.due("back", 1, x.back(0));
        C.due("of the image: the one that he has", -1, x.promise(2, 6));
        C.due("nothing to be undone", -1, x.undo());
        C.due("of the image: another one", 6, x.promise(2, 5));
        C.due("undone", 0, x.undo());
        C.due("undone: the one that he has again", -1, x.promise(2, 6));
        for (int i = 0; i < 20; i++) x.promise(0, 1 + i % 2);
        for (int i = 0; i < 5; i++) C.due("behind twenty acts", -1, x.promise(0, 2));
        for (int i = 19; i >= 0; i--) C.due("each of the twenty can be undone", i, x.undo());
        C.due("as ahead of them", 0, x.boy(0, 1));
    }

    /** "there is a BISHOP, a CANON who lives has a PREBEND that is free besides his" */
    private static void giveRefused() {
        String choir = "choir 40 0;boy 9 1 0;canon 99 7;canon 50 1;canon 98 3";
        BoyBishop x = Checks.days(Checks.of(choir), 9);
        C.due("he lives still", -1, x.give(0, 1));
        x.day();
        for (int bad : new int[] {-1, 3, 4, MOST, LEAST}) {
            C.due("give(" + bad + ", 1)", -1, x.give(bad, 1));
            C.due("give(0, " + bad + ")", -1, x.give(0, bad));
        }
        C.due("of one who lives", -1, x.give(1, 2));
        C.due("of himself, who lives", -1, x.give(1, 1));
        C.due("to the dead himself", -1, x.give(0, 0));
        C.due("nothing happened", 1, x.count(14));
        C.due("no more acts", 10, x.count(17));
        C.due("to one who lives", 7, x.give(0, 1));
        x = Checks.days(Checks.of("choir 10 0;boy 9 1 0;canon 99 7;canon 50 1"), 10);
        C.due("no bishop behind day 9", -1, x.count(8));
        C.due("so nothing is given", -1, x.give(0, 1));
        x.day();
        C.due("a bishop behind day 10", 7, x.give(0, 1));
        x = Checks.days(Checks.of("choir 40 0;boy 9 1 0;canon 99 7;canon 99 1"), 10);
        C.due("nobody lives", -1, x.give(0, 1));
        C.due("both are free", 3, x.count(14));
    }

    /** "it is no more free"; "whose prebend he was GIVEN last (NONE)" */
    private static void giveOnce() {
        BoyBishop x = Checks.days(Checks.of("choir 40 0;boy 9 1 0;canon 99 7;canon 50 1;canon 99 0;canon 60 99"), 10);
        C.due("none yet", -1, x.canon(1, 3));
        C.due("the prebend", 7, x.give(0, 1));
        C.due("no more free", 0, x.canon(0, 2));
        C.due("not once more", -1, x.give(0, 3));
        C.due("not to the same", -1, x.give(0, 1));
        C.due("whose", 0, x.canon(1, 3));
        C.due("a prebend of 0", 0, x.give(2, 1));
        C.due("the last", 2, x.canon(1, 3));
        C.due("the other was given none", -1, x.canon(3, 3));
        C.due("none free", 0, x.count(14));
        Checks.days(x, 10);
        C.due("nor does it come free by a year", 0, x.count(14));
        C.due("he stays dead", 100, x.canon(0, 0));
    }

    /** "BREAK (a voice that is not BROKEN is)" */
    private static void breakOnce() {
        BoyBishop x = Checks.of("choir 9 0;boy 1 0 0;boy 99 0 0;boy 1 0 1");
        C.due("a voice of 1", 1, x.breaks(0));
        C.due("a voice of 99", 99, x.breaks(1));
        C.due("once more", -1, x.breaks(0));
        x.day();
        C.due("one that broke by itself", -1, x.breaks(2));
        for (int bad : new int[] {-1, 3, 6, MOST, LEAST}) C.due("breaks(" + bad + ")", -1, x.breaks(bad));
        C.due("three acts", 3, x.count(17));
        C.due("all broken", 7, x.count(15));
    }

    /** "The last 20 can be UNDONE, the last first."; "how many more can be; NONE, and nothing happens: none can" */
    private static void twentyUndone() {
        for (int acts : new int[] {0, 1, 19, 20, 21, 40, 41}) {
            BoyBishop x = Checks.of("choir 40 0;boy 99 0 1");
            for (int i = 0; i < acts; i++) x.day();
            int can = Math.min(20, acts);
            C.due(acts + " acts: can be undone", can, x.count(17));
            for (int i = 1; i <= can; i++) {
                C.due(acts + " acts: undo", can - i, x.undo());
                C.due(acts + " acts: day", acts - i, x.count(7));
                C.due(acts + " acts: voice", 99 - acts + i, x.boy(0, 0));
            }
            C.due(acts + " acts: none can", -1, x.undo());
            C.due(acts + " acts: nothing happens", acts - can, x.count(7));
            x.day();
            C.due(acts + " acts: one can again", 0, x.undo());
            C.due(acts + " acts: and is", acts - can, x.count(7));
        }
    }

    private static void refusedActsAreNoActs() {
        BoyBishop x = Checks.of(Checks.CHOIR);
        x.promise(0, 21);
        x.promise(3, 1);
        x.visit(0);
        x.give(0, 1);
        x.breaks(3);
        C.due("none can be undone", 0, x.count(17));
        C.due("so none is", -1, x.undo());
        x.breaks(0);
        x.breaks(0);
        C.due("one can", 1, x.count(17));
        C.due("the right one", 0, x.undo());
        C.due("his voice is back", 9, x.boy(0, 0));
    }
}
