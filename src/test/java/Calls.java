/** Calls of BoyBishop and of Model by number, so that one run can be told to both. */
final class Calls {
    static final String[] NAMES = {"feed", "end", "choir", "rule", "force", "boy", "likes", "canon", "farm", "day",
        "visit", "promise", "give", "breaks", "undo", "ahead", "votes", "method", "least", "winOver", "rests", "round",
        "falls", "likely", "best", "note", "ruled", "look", "seed", "winters", "count", "image", "back"};
    static final int[] ARGUMENTS = {5, 1, 0, 0, 1, 2, 2, 2, 2, 0, 1, 2, 2, 1, 0, 3, 2, 1, 1, 2, 3, 1, 2, 2, 1, 2, 1, 1, 1, 4, 1, 1, 1};

    private Calls() { }

    static int of(BoyBishop x, int call, int... a) {
        return switch (call) {
            case 0 -> x.feed(a[0], a[1], a[2], a[3], a[4]);
            case 1 -> x.end(a[0]);
            case 2 -> x.choir();
            case 3 -> x.rule();
            case 4 -> x.force(a[0]);
            case 5 -> x.boy(a[0], a[1]);
            case 6 -> x.likes(a[0], a[1]);
            case 7 -> x.canon(a[0], a[1]);
            case 8 -> x.farm(a[0], a[1]);
            case 9 -> x.day();
            case 10 -> x.visit(a[0]);
            case 11 -> x.promise(a[0], a[1]);
            case 12 -> x.give(a[0], a[1]);
            case 13 -> x.breaks(a[0]);
            case 14 -> x.undo();
            case 15 -> x.ahead(a[0], a[1], a[2]);
            case 16 -> x.votes(a[0], a[1]);
            case 17 -> x.method(a[0]);
            case 18 -> x.least(a[0]);
            case 19 -> x.winOver(a[0], a[1]);
            case 20 -> x.rests(a[0], a[1], a[2]);
            case 21 -> x.round(a[0]);
            case 22 -> x.falls(a[0], a[1]);
            case 23 -> x.likely(a[0], a[1]);
            case 24 -> x.best(a[0]);
            case 25 -> x.note(a[0], a[1]);
            case 26 -> x.ruled(a[0]);
            case 27 -> x.look(a[0]);
            case 28 -> x.seed(a[0]);
            case 29 -> x.winters(a[0], a[1], a[2], a[3]);
            case 30 -> x.count(a[0]);
            case 31 -> x.image(a[0]);
            default -> x.back(a[0]);
        };
    }

    static int of(Model x, int call, int... a) {
        return switch (call) {
            case 0 -> x.feed(a[0], a[1], a[2], a[3], a[4]);
            case 1 -> x.end(a[0]);
            case 2 -> x.choir();
            case 3 -> x.rule();
            case 4 -> x.force(a[0]);
            case 5 -> x.boy(a[0], a[1]);
            case 6 -> x.likes(a[0], a[1]);
            case 7 -> x.canon(a[0], a[1]);
            case 8 -> x.farm(a[0], a[1]);
            case 9 -> x.day();
            case 10 -> x.visit(a[0]);
            case 11 -> x.promise(a[0], a[1]);
            case 12 -> x.give(a[0], a[1]);
            case 13 -> x.breaks(a[0]);
            case 14 -> x.undo();
            case 15 -> x.ahead(a[0], a[1], a[2]);
            case 16 -> x.votes(a[0], a[1]);
            case 17 -> x.method(a[0]);
            case 18 -> x.least(a[0]);
            case 19 -> x.winOver(a[0], a[1]);
            case 20 -> x.rests(a[0], a[1], a[2]);
            case 21 -> x.round(a[0]);
            case 22 -> x.falls(a[0], a[1]);
            case 23 -> x.likely(a[0], a[1]);
            case 24 -> x.best(a[0]);
            case 25 -> x.note(a[0], a[1]);
            case 26 -> x.ruled(a[0]);
            case 27 -> x.look(a[0]);
            case 28 -> x.seed(a[0]);
            case 29 -> x.winters(a[0], a[1], a[2], a[3]);
            case 30 -> x.count(a[0]);
            case 31 -> x.image(a[0]);
            default -> x.back(a[0]);
        };
    }
}
