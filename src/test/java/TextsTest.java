/** Promises 1 to 6: a new object, the tape, the texts of choirs and rules, the rule in force. */
public final class TextsTest {
    private static final Checks C = new Checks("TextsTest");

    private TextsTest() { }

    public static void main(String[] args) {
        aNewObject();
        feed();
        end();
        choir();
        choirFaults();
        rule();
        ruleFaults();
        ruleLimits();
        reckoning();
        words();
        force();
        C.finish();
    }

    private static int fault(int place, int kind) { return Checks.fault(place, kind); }

    private static void aNewObject() {
        C.due("NONE", -1, BoyBishop.NONE);
        BoyBishop x = new BoyBishop();
        for (int what = -1; what <= 20; what++) {
            boolean none = what < 0 || what == 6 || what == 8 || what == 9 || what > 19;
            C.due("new: count(" + what + ")", none ? -1 : 0, x.count(what));
        }
        C.due("new: boy", -1, x.boy(0, 0));
        C.due("new: likes", -1, x.likes(0, 0));
        C.due("new: canon", -2, x.canon(0, 0));
        C.due("new: farm", -2, x.farm(0, 0));
        C.due("new: day", -2, x.day());
        C.due("new: visit", -1, x.visit(0));
        C.due("new: promise", -1, x.promise(0, 5));
        C.due("new: give", -1, x.give(0, 1));
        C.due("new: breaks", -1, x.breaks(0));
        C.due("new: undo", -1, x.undo());
        C.due("new: ahead", -2, x.ahead(0, 0, 0));
        C.due("new: votes", -2, x.votes(0, 2));
        C.due("new: method", -2, x.method(0));
        C.due("new: least", -1, x.least(0));
        C.due("new: winOver", -1, x.winOver(0, 0));
        C.due("new: rests", -1, x.rests(0, 1, 0));
        C.due("new: round", -1, x.round(0));
        C.due("new: falls", -1, x.falls(0, 1));
        C.due("new: likely", -1, x.likely(0, 1));
        C.due("new: best", -1, x.best(0));
        C.due("new: note", -2, x.note(0, -1));
        C.due("new: no notes", 0, x.note(-1, -1));
        C.due("new: no notes of a boy that is not there", 0, x.note(-1, 9));
        C.due("new: and still no note", -2, x.note(0, -1));
        C.due("new: nor any told", 0, x.count(16));
        C.due("new: ruled", -3, x.ruled(0));
        C.due("new: look", -1, x.look(0));
        C.due("new: winters", -1, x.winters(1, 1, 0, 0));
        C.due("new: back", -1, x.back(0));
        C.due("new: choir of an empty tape", -3, x.choir());
        C.due("new: rule of an empty tape", -3, x.rule());
    }

    private static void feed() {
        BoyBishop x = new BoyBishop();
        for (int i = 1; i <= 20; i++) C.due("feed " + i, 20 * i, x.feed(0, 0, 0, 0, 0));
        C.due("feed of a full tape", -1, x.feed(0, 0, 0, 0, 0));
        C.due("a full tape", 400, x.count(19));
        x.end(381);
        C.due("feed that would be 401", -1, x.feed(0, 0, 0, 0, 0));
        C.due("and none came", 381, x.count(19));
        x.end(380);
        C.due("feed that is 400", 400, x.feed(0, 0, 0, 0, 0));
        // "vote likes+1;vote 23": each number the highest byte first
        x.end(0);
        C.due("feed a text", 20, x.feed(0x766f7465, 0x206c696b, 0x65732b31, 0x3b766f74, 0x65203233));
        C.due("the text is a rule", 0, x.rule());
        x.feed(0x766f7465, 0x2031ff20, 0, 0, 0);
        x.end(8);
        C.due("a byte of 255", fault(6, 0), x.rule());
    }

    private static void end() {
        BoyBishop x = new BoyBishop();
        C.due("end 0 of nothing", 0, x.end(0));
        C.due("end 1 of nothing", -1, x.end(1));
        x.feed(0x766f7465, 0x20310000, 0, 0, 0);
        C.due("end 21 of 20", -1, x.end(21));
        C.due("end below 0", -1, x.end(-1));
        C.due("end of the least", -1, x.end(Integer.MIN_VALUE));
        C.due("nothing happened", 20, x.count(19));
        C.due("end 20 of 20", 20, x.end(20));
        C.due("end 6", 6, x.end(6));
        C.due("end 7 of 6", -1, x.end(7));
        C.due("vote 1", 0, x.rule());
    }

    private static void choir() {
        BoyBishop x = Checks.of(Checks.CHOIR);
        C.due("boys", 3, x.count(2));
        C.due("the tape is empty then", 0, x.count(19));
        Checks.rule(x, "vote 1");
        x.force(0);
        x.seed(77);
        x.note(3, 1);
        x.promise(0, 6);
        x.day();
        Checks.say(x, "choir 1 25");
        C.due("a fault", fault(8, 1), x.choir());
        C.due("the tape stays", 10, x.count(19));
        C.due("the day stays", 1, x.count(7));
        C.due("the reign stays", 3, x.count(0));
        C.due("the notes stay", 1, x.count(16));
        C.due("the acts stay", 2, x.count(17));
        C.due("another choir", 1, Checks.choir(x, " choir2 24 ; boy 99 20 9;likes 0 0 7;likes 0 0 20;farm 60 9;way 1 0 12;snow 60;snow 60;snow 0 "));
        C.due("reign", 2, x.count(0));
        C.due("hours", 24, x.count(1));
        C.due("canons", 0, x.count(3));
        C.due("farms", 1, x.count(4));
        C.due("rules stay", 1, x.count(5));
        C.due("the rule in force stays", 0, x.count(6));
        C.due("day 0", 0, x.count(7));
        C.due("no bishop", -1, x.count(8));
        C.due("no first day", -1, x.count(9));
        C.due("snow", 1, x.count(13));
        C.due("no notes", 0, x.count(16));
        C.due("nothing to be undone", 0, x.count(17));
        C.due("undo", -1, x.undo());
        C.due("x stays", 77, x.count(18));
        C.due("the last likes told", 20, x.likes(0, 0));
        C.due("hours of the way", 12, x.farm(0, 3));
        C.due("no boys", 0, Checks.choir(x, "choir 00040 00000"));
        C.due("nobody votes", -1, x.votes(0, 2));
        C.due("nobody by the first method", -1, x.method(0));
        C.due("nobody by the second method", -1, x.method(1));
        C.due("nobody by the third method", -1, x.method(2));
        C.due("a day without boys", -1, x.day());
        C.due("the empty round", 0, x.round(1));
        leftovers();
        C.due("forty clauses", 0, Checks.choir(x, "choir 1 0" + ";snow 0".repeat(39)));
        C.due("all that there may be", 6, Checks.choir(x, "choir 1 0" + ";boy 1 0 0".repeat(6) + ";canon 20 0".repeat(4) + ";farm 0 0".repeat(6)));
    }

    /** Neither a text with a fault nor the choir there was may leave anything to the next one. */
    private static void leftovers() {
        BoyBishop x = Checks.of("choir 40 9;boy 9 20 0;canon 99 1;farm 20 0;way 0 1 1;snow 3");
        Checks.days(x, 11);
        C.due("a visit", 16, x.visit(0));
        x.breaks(0);
        C.due("a fault behind much", fault(68, 0), Checks.choir(x,
            "choir 1 1;boy 1 0 0;boy 1 0 0;likes 0 1 9;farm 1 1;canon 50 1;snow 0"
            + "!"));
        C.due("no more than told", 2, Checks.choir(x, "choir 40 9;boy 9 1 0;boy 9 0 0;likes 0 1 0;farm 7 0;canon 99 1"));
        C.due("likes", 0, x.likes(0, 1));
        C.due("farms", 1, x.count(4));
        C.due("canons", 1, x.count(3));
        C.due("no way", -1, x.farm(0, 3));
        int[] due = {0, -1, -1, 0, 0, 0, 0, 0, 0};
        for (int what = 7; what < 16; what++) C.due("begun anew: count(" + what + ")", due[what - 7], x.count(what));
        C.due("never bishop", 0, x.boy(0, 3));
        C.due("lives", 99, x.canon(0, 0));
        C.due("not free", 0, x.canon(0, 2));
        for (int i = 0; i < 4; i++) {
            C.due("no snow " + i, 0, x.count(13));
            x.day();
        }
        C.due("a rule with a fault behind much", fault(24, 0), Checks.rule(x, "vote 7;vote 8 if 1=1 and"));
        C.due("the rule behind it", 0, Checks.rule(x, "vote 1 if boy=1" + ";vote 0".repeat(11)));
        x.force(0);
        C.due("has nothing of it", 1, x.votes(0, 2));
        C.due("sixty parts are counted anew", 1, Checks.rule(x, "vote 1" + "+1".repeat(59)));
        C.due("and anew", 2, Checks.rule(x, "vote 1" + "+1".repeat(59)));
    }

    private static void choirFaults() {
        choirFault("", 0, 0);
        choirFault("   ", 3, 0);
        choirFault("choir", 5, 0);
        choirFault("choir 0 0", 6, 1);
        choirFault("choir 41 0", 6, 1);
        choirFault("choir 100000 0", 6, 1);
        choirFault("choir 000001 0", 6, 1);
        choirFault("choir 1 25", 8, 1);
        choirFault("choir 1", 7, 0);
        choirFault("choir 1 ;", 8, 0);
        choirFault("choir a 0", 6, 0);
        choirFault("choir -1 0", 6, 0);
        choirFault("choirs 1 0", 0, 0);
        choirFault("Choir 1 0", 0, 0);
        choirFault("  choi 1 0", 2, 0);
        choirFault("7", 0, 0);
        choirFault(";", 0, 0);
        choirFault("vote 1", 0, 0);
        choirFault("boy 1 0 0", 0, 4);
        choirFault(" snow", 1, 4);
        choirFault("choir 1 0;choir 1 0", 10, 4);
        choirFault("choir 1 0;", 10, 0);
        choirFault("choir 1 0;  ", 12, 0);
        choirFault("choir 1 0 0", 10, 0);
        choirFault("choir 1 0 boy 1 0 0", 10, 0);
        choirFault("choir 1 0;;", 10, 0);
        choirFault("choir 1 0\t", 9, 0);
        choirFault("choir 1 0\0", 9, 0);
        choirFault("choir 1 0;boy 0 0 0", 14, 1);
        choirFault("choir 1 0;boy 100 0 0", 14, 1);
        choirFault("choir 1 0;boy 1 21 0", 16, 1);
        choirFault("choir 1 0;boy 1 0 10", 18, 1);
        choirFault("choir 1 0;likes 0 0 0", 16, 1);
        choirFault("choir 1 0;boy 1 0 0;likes 1 0 0", 26, 1);
        choirFault("choir 1 0;boy 1 0 0;likes 0 1 0", 28, 1);
        choirFault("choir 1 0;boy 1 0 0;likes 0 0 21", 30, 1);
        choirFault("choir 1 0;canon 19 0", 16, 1);
        choirFault("choir 1 0;canon 100 0", 16, 1);
        choirFault("choir 1 0;canon 20 100", 19, 1);
        choirFault("choir 1 0;farm 61 0", 15, 1);
        choirFault("choir 1 0;farm 0 10", 17, 1);
        choirFault("choir 1 0;way 0 1 1", 16, 1);
        choirFault("choir 1 0;way 1 0 1", 14, 1);
        choirFault("choir 1 0;way 0 0 1", 16, 1);
        choirFault("choir 1 0;way 0 x 1", 16, 0);
        choirFault("choir 1 0;farm 0 0;way 0 0 1", 25, 1);
        choirFault("choir 1 0;farm 0 0;way 0 1 0", 27, 1);
        choirFault("choir 1 0;farm 0 0;way 0 1 13", 27, 1);
        choirFault("choir 1 0;snow 61", 15, 1);
        choirFault("choir 1 0" + ";snow 0".repeat(40), 283, 4);
        choirFault("choir 1 0" + ";snow 0".repeat(39) + ";snows 0", 283, 0);
        choirFault("choir 1 0" + ";snow 0".repeat(39) + ";", 283, 0);
        choirFault("choir 1 0" + ";boy 1 0 0".repeat(6) + ";boy 0", 70, 4);
        choirFault("choir 1 0" + ";canon 20 0".repeat(4) + "; canon", 55, 4);
        choirFault("choir 1 0" + ";farm 0 0".repeat(7), 64, 4);
    }

    private static void choirFault(String text, int place, int kind) {
        C.due("choir \"" + text + "\"", fault(place, kind), Checks.choir(new BoyBishop(), text));
    }

    private static void rule() {
        BoyBishop x = new BoyBishop();
        for (int i = 0; i < 5; i++) C.due("rule " + i, i, Checks.rule(x, "vote " + i));
        C.due("the tape is empty then", 0, x.count(19));
        C.due("a fault", fault(5, 0), Checks.rule(x, "vote x"));
        C.due("a fault is no rule", 5, x.count(5));
        C.due("the tape with a fault stays", 6, x.count(19));
        C.due("rule 5", 5, Checks.rule(x, "vote1if1=1"));
        C.due("a seventh rule", -1, Checks.rule(x, "vote 1"));
        C.due("nothing happens", 6, x.count(19));
        C.due("a seventh rule with a fault", -1, Checks.rule(x, "vote"));
        C.due("six rules", 6, x.count(5));
    }

    private static void ruleFaults() {
        ruleFault("", 0, 0);
        ruleFault("vote", 4, 0);
        ruleFault("vote ", 5, 0);
        ruleFault("votes 1", 0, 0);
        ruleFault("choir 1 0", 0, 0);
        ruleFault("1", 0, 0);
        ruleFault("vote x", 5, 0);
        ruleFault("vote vote", 5, 0);
        ruleFault("vote not 1=1", 5, 0);
        ruleFault("vote [1]", 5, 0);
        ruleFault("vote -1", 5, 0);
        ruleFault("vote 123456", 5, 1);
        ruleFault("vote 1 2", 7, 0);
        ruleFault("vote 1;", 7, 0);
        ruleFault("vote 1; vote", 12, 0);
        ruleFault("vote 5 %", 8, 0);
        ruleFault("vote 5 + * 3", 9, 0);
        ruleFault("vote 1 = 1", 7, 0);
        ruleFault("vote 1 if", 9, 0);
        ruleFault("vote 1 if 1", 11, 0);
        ruleFault("vote 1 if 1 =", 13, 0);
        ruleFault("vote 1 if 1 < = 2", 14, 0);
        ruleFault("vote 1 if 1 =< 2", 13, 0);
        ruleFault("vote 1 if 1 = 1 = 1", 16, 0);
        ruleFault("vote 1 if 1 = 1 and", 19, 0);
        ruleFault("vote 1 if 1 = 1 if 1 = 1", 16, 0);
        ruleFault("vote 1 if not", 13, 0);
        ruleFault("vote 1 if [ 1 = 1", 17, 0);
        ruleFault("vote 1 if [ 1 = 1;", 17, 0);
        ruleFault("vote 1 if [ 1 ] = 1", 14, 0);
        ruleFault("vote 1 if same = 1]", 18, 0);
        ruleFault("vote 1 if 1 = 1 orr 1 = 1", 16, 0);
        ruleFault("vote 1 if 123456 = 1", 10, 1);
        ruleFault("vote Voice", 5, 0);
        ruleFault("vote 1!", 6, 0);
    }

    private static void ruleLimits() {
        ruleFault("vote 1 if " + "not ".repeat(11) + "1=1", 50, 2);
        ruleFault("vote 1 if " + "[".repeat(11) + "1=1", 20, 2);
        ruleFault("vote 1 if " + "not[".repeat(5) + "not 1=1", 30, 2);
        ruleFault("vote 1 if " + "not[".repeat(5) + "1=1" + "]".repeat(5) + " and " + "[".repeat(11), 53, 2);
        good("vote 1 if " + "not ".repeat(10) + "1=1");
        good("vote 1 if " + "[".repeat(10) + "1=1" + "]".repeat(10));
        good("vote 1 if " + "not[".repeat(5) + "1=1" + "]".repeat(5) + " and " + "not ".repeat(10) + "1=1 or " + "[".repeat(10) + "1=1" + "]".repeat(10));
        good("vote 1" + ";vote 1".repeat(11));
        ruleFault("vote 1" + ";vote 1".repeat(12), 84, 4);
        ruleFault("vote 1" + ";vote 1".repeat(11) + ";note 1", 84, 0);
        good("vote 1" + "+1".repeat(59));
        ruleFault("vote 1" + "+1".repeat(60), 125, 3);
        ruleFault("vote 1" + "+1".repeat(59) + "+123456", 125, 1);
        ruleFault("vote 1" + "+1".repeat(59) + "+x", 125, 0);
        good("vote 1" + "+1".repeat(56) + " if 1=1");
        ruleFault("vote 1" + "+1".repeat(57) + " if 1=1", 126, 3);
        ruleFault("vote 1" + "+1".repeat(58) + " if 1<=1", 127, 3);
        ruleFault("vote 1" + "+1".repeat(58) + " if 1;", 127, 0);
        ruleFault("vote 1" + "+1".repeat(29) + ";vote 1" + "+1".repeat(30), 130, 3);
        good("vote 1" + "+1".repeat(29) + ";vote 1" + "+1".repeat(29));
        good("vote " + "1".repeat(5) + " ".repeat(390));
    }

    private static void ruleFault(String text, int place, int kind) {
        C.due("rule \"" + text + "\"", fault(place, kind), Checks.rule(new BoyBishop(), text));
    }

    private static void good(String text) {
        C.due("rule \"" + text + "\"", 0, Checks.rule(new BoyBishop(), text));
    }

    private static void reckoning() {
        for (String test : new String[] {"2+3*4=14", "10-4-3=3", "20/3/2=3", "17%5*3=6", "2*3+4*5=26", "100-2*3*4-6/2+1=74",
            "7/2=3", "7%4=3", "5/0=0", "5%0=0", "0/0+1=1", "1-2<0", "0-7/2=0-3", "1<2", "1<=1", "1=1", "2>=2", "2>1", "not 1<1",
            "not 2<=1", "not 1=2", "not 1>=2", "not 1>1", "not not 1=1", "not[1=1 and 1=2]", "1=1 or 1=2 and 1=2",
            "1=2 and 1=2 or 1=1", "not 1=2 and 1=1", "1=2 or 1=2 or 1=1", "not[[1=1 or 1=2] and 1=2]",
            "1=1or 1=2", "65536*32768*65536*65536<0", "65536*32768*65536*65536%3+2=0", "65536*32768*65536*65536-1>0",
            "65536*32768*65536*65536/3*3-65536*32768*65536*65536=2", "65536*65536*65536*65536=0", "99999*99999=99999*99998+99999"}) {
            String text = "vote 1 if boy=1 and [" + test + "]";
            C.due(test, 1, Checks.of("choir 1 0;boy 9 0 0;boy 9 0 0", text).votes(0, 2));
            String contrary = "vote 1 if boy=1 and not[" + test + "]";
            C.due("not " + test, -1, Checks.of("choir 1 0;boy 9 0 0;boy 9 0 0", contrary).votes(0, 2));
        }
        String deep = "vote boy if " + "1=2 or 1=1 and [".repeat(9);
        C.due("all that waits, and it holds", 1, Checks.of("choir 1 0;boy 9 0 0;boy 9 0 0", deep + "1+1*1=2" + "]".repeat(9)).votes(0, 2));
        C.due("all that waits, and it does not", -1, Checks.of("choir 1 0;boy 9 0 0;boy 9 0 0", deep + "1+1*1=3" + "]".repeat(9)).votes(0, 2));
        C.due("the first clause that holds", 1, Checks.of("choir 1 0;boy 9 0 0;boy 9 0 0",
            "vote 3 if boy=2;vote 1 if boy=0;vote 2 if boy=1;vote 9 if boy=0;vote 8").votes(0, 2));
        C.due("a clause that holds hides those behind it", -1, Checks.of("choir 1 0;boy 9 0 0", "vote 0;vote 5").votes(0, 2));
        C.due("0 without a clause that holds", -1, Checks.of("choir 1 0;boy 9 0 0", "vote 5 if 1=2").votes(0, 2));
        C.due("below 0 is no vote", -1, Checks.of("choir 1 0;boy 9 0 0", "vote 1-2").votes(0, 2));
    }

    /** By each word only boy 2 is wanted on the third day of this choir, whose boy 0 is broken then. */
    private static void words() {
        String choir = "choir 1 10;boy 2 1 1;boy 40 3 2;boy 60 7 5;boy 80 9 6;likes 1 2 11;likes 1 1 4;farm 20 0;way 0 1 1";
        for (String test : new String[] {"boy=2", "voice=50", "share=7", "fade=5", "likes=11 and voter=1", "was=0 and boy=2",
            "same=1 and voter=2", "same=0 and boy=2", "day=2 and boy=2", "chest=0 and boy=2", "boys=3 and boy=2"}) {
            BoyBishop x = Checks.of(choir, "vote 5 if " + test);
            x.force(-1);
            x.day();
            x.day();
            C.due(test + ": broken", 1, x.count(15));
            x.force(0);
            C.due(test, 2, x.votes(0, 2));
        }
        BoyBishop x = Checks.of("choir 40 10;boy 50 10 0;boy 50 0 0;farm 20 0;way 0 1 1", "vote was*10+1", "vote chest");
        x.force(-1);
        x.day();
        x.visit(0);
        x.force(0);
        C.due("who was bishop", 0, x.votes(1, 0));
        x = Checks.of("choir 2 10;boy 50 0 0;boy 50 10 0;farm 20 0;way 0 1 1", "vote was*10+1", "vote chest");
        x.force(-1);
        x.day();
        x.visit(0);
        x.force(0);
        C.due("who was bishop is not the first", 1, x.votes(0, 0));
        x.force(1);
        C.due("what is in the chest", 18, x.count(10));
        C.due("votes by the chest", 0, x.votes(1, 0));
    }

    private static void force() {
        BoyBishop x = new BoyBishop();
        C.due("none in force", -1, x.force(-1));
        C.due("none such", -2, x.force(0));
        Checks.rule(x, "vote 1");
        Checks.rule(x, "vote 2");
        C.due("rule 1", -1, x.force(1));
        C.due("none such", -2, x.force(2));
        C.due("below NONE", -2, x.force(-2));
        C.due("nothing happened", 1, x.count(6));
        C.due("rule 0", 1, x.force(0));
        C.due("no rule", 0, x.force(-1));
        C.due("none is in force", -1, x.count(6));
    }
}
