/** Promises 32 to 34: counts and images. */
public final class ImagesTest {
    private static final Checks C = new Checks("ImagesTest");

    private ImagesTest() { }

    public static void main(String[] args) {
        count();
        image();
        back();
        C.finish();
    }

    private static void count() {
        BoyBishop x = Checks.of(Checks.CHOIR, "vote 1", "vote likes+share");
        x.note(1, 1);
        x.seed(99);
        x.day();
        x.visit(0);
        x.breaks(2);
        x.feed(0, 0, 0, 0, 0);
        int[] due = {3, 10, 3, 2, 2, 2, 1, 1, 0, 0, 19, 1, 1, 1, 0, 4, 1, 3, 99, 20};
        for (int what = 0; what < 20; what++) C.due("count(" + what + ")", due[what], x.count(what));
        C.due("nothing such", -1, x.count(20));
        C.due("below 0", -1, x.count(-1));
        C.due("the least", -1, x.count(Integer.MIN_VALUE));
    }

    private static void image() {
        BoyBishop x = new BoyBishop();
        C.due("without a choir it is day 0", 0, x.image(3));
        Checks.choir(x, Checks.CHOIR);
        Checks.days(x, 4);
        C.due("day 4", 4, x.image(0));
        C.due("no such image", -1, x.image(4));
        C.due("below 0", -1, x.image(-1));
        C.due("what can be undone stays", 4, x.count(17));
        C.due("no choir any more", 0, x.back(3));
        C.due("no boys", 0, x.count(2));
        C.due("no day", -2, x.day());
        C.due("the choir again", 4, x.back(0));
        C.due("a day", -1, x.day());
        C.due("another image in its place", 5, x.image(0));
        x.day();
        C.due("back to that one", 5, x.back(0));
    }

    private static void back() {
        BoyBishop x = Checks.of(Checks.CHOIR, "vote 1");
        C.due("never made", -1, x.back(0));
        C.due("no such image", -1, x.back(4));
        C.due("below 0", -1, x.back(-1));
        x.seed(5);
        x.note(0, 0);
        x.day();
        x.promise(1, 7);
        x.image(2);
        C.due("not this one", -1, x.back(1));
        x.promise(1, 9);
        x.seed(6);
        x.note(1, 1);
        x.note(2, 2);
        Checks.rule(x, "vote 2");
        x.force(1);
        Checks.days(x, 12);
        x.visit(0);
        Checks.choir(x, "choir 9 9;canon 33 3");
        x.feed(0, 0, 0, 0, 0);
        C.due("back", 1, x.back(2));
        int[] due = {3, 10, 3, 2, 2, 2, 0, 1, 0, 0, 0, 0, 0, 1, 0, 0, 1, 0, 5, 20};
        for (int what = 0; what < 20; what++) C.due("back: count(" + what + ")", due[what], x.count(what));
        C.due("the share of then", 7, x.boy(1, 1));
        C.due("nothing can be undone", -1, x.undo());
        C.due("the note of then", 3, x.ruled(0));
        x.note(0, 2);
        C.due("one note more", 0, x.ruled(0));
        x.note(-1, 0);
        x.note(5, 0);
        x.end(0);
        x.day();
        x.promise(1, 3);
        C.due("two acts", 2, x.count(17));
        C.due("back once more", 1, x.back(2));
        C.due("the image was not changed", 7, x.boy(1, 1));
        C.due("nor its day", 1, x.count(7));
        C.due("nothing can be undone then", -1, x.undo());
        x.note(0, 1);
        x.back(2);
        C.due("nor its note", 3, x.ruled(0));
        x = Checks.of(Checks.CHOIR, "vote voice");
        x.note(0, 2);
        x.image(0);
        x.note(-1, 0);
        x.note(1, 0);
        x.back(0);
        C.due("the day and the boy of the note", 0, x.ruled(1));
    }
}
