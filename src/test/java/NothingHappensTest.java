import java.util.Arrays;

/**
 * Where a promise says that nothing happens, or that nothing changes by what is asked: of two objects told the same one is
 * told the call, too, and all that is asked and done later must answer alike.
 */
public final class NothingHappensTest {
    private static final Checks C = new Checks("NothingHappensTest");
    private static final int MOST = Integer.MAX_VALUE;
    private static final int LEAST = Integer.MIN_VALUE;

    /** Scene, call, and the answer that is due. */
    private static final String[] REFUSED = {
        // promise 2: it would have more than 400
        "full|feed 0 0 0 0 0|-1", "full|feed 1 2 3 4 5|-1",
        // promise 3: it has not so many, or n is below 0
        "new|end 1|-1", "new|end -1|-1", "fed|end 11|-1", "fed|end -1|-1", "full|end 401|-1", "bishop|end 20|-1",
        // promise 4: a fault, and all stays
        "new|choir|-3", "fed|choir|-3", "wrong|choir|-3", "begin|choir|-3", "out|choir|-3", "broken|choir|-3", "nobody|choir|-3",
        // promise 5: a fault; there are 6
        "new|rule|-3", "wrong|rule|-83", "out|rule|-3", "bishop|rule|-3", "full|rule|-1",
        // promise 6: there is none such
        "new|force 0|-2", "new|force -2|-2", "begin|force 2|-2", "begin|force -2|-2", "full|force 6|-2",
        // promise 11: without a choir
        "new|day|-2", "fed|day|-2",
        // promise 12: no bishop, has been out, no such farm, too far by snow
        "new|visit 0|-1", "begin|visit 0|-1", "out|visit 0|-1", "out|visit 1|-1", "bishop|visit 1|-1", "bishop|visit 2|-1",
        "bishop|visit -1|-1", "broken|visit 0|-1", "nobody|visit 0|-1", "dead|visit 1|-1",
        // promise 13: no such boy, no such share, the share that he has
        "new|promise 0 5|-1", "begin|promise 0 21|-1", "begin|promise 0 -1|-1", "begin|promise 3 5|-1", "begin|promise -1 5|-1",
        "nobody|promise 0 5|-1", "full|promise 6 0|-1", "begin|promise 0 5|-1", "begin|promise 2 0|-1", "bishop|promise 1 10|-1",
        "out|promise 1 3|-1", "dead|promise 0 10|-1", "full|promise 0 2|-1", "broken|promise 0 5|-1", "broken|promise 2 0|-1",
        // promise 14: no bishop, not free, not dead, not alive
        "new|give 0 1|-1", "begin|give 0 1|-1", "bishop|give 0 1|-1", "dead|give 1 2|-1", "dead|give 0 0|-1", "dead|give 0 3|-1",
        "dead|give 4 1|-1", "dead|give -1 1|-1", "dead|give 0 4|-1", "dead|give 0 -1|-1", "dead|give 1 1|-1", "nobody|give 0 1|-1",
        // promise 15: no such boy, broken already
        "new|breaks 0|-1", "begin|breaks 3|-1", "begin|breaks -1|-1", "broken|breaks 0|-1", "broken|breaks 2|-1", "nobody|breaks 0|-1",
        // promise 16: none can
        "new|undo|-1", "fed|undo|-1", "begin|undo|-1", "nobody|undo|-1",
        // promise 27: without a choir, no such day, no such boy, there are 10
        "new|note 0 0|-2", "new|note 0 -1|-2", "begin|note 61 0|-2", "begin|note -2 0|-2", "begin|note 0 3|-2", "begin|note 0 -2|-2",
        "full|note 0 0|-2", "full|note 5 -1|-2", "nobody|note 0 0|-2",
        // promise 30: below 0
        "new|seed -1|-1", "begin|seed -1|-1", "full|seed -2147483648|-1",
        // promise 33: no such image
        "new|image 4|-1", "begin|image -1|-1", "full|image 4|-1",
        // promise 34: never made, no such image
        "new|back 0|-1", "begin|back 0|-1", "bishop|back 3|-1", "full|back 4|-1", "full|back -1|-1",
    };

    private NothingHappensTest() { }

    public static void main(String[] args) {
        for (String row : REFUSED) refused(row.split("\\|"));
        for (String scene : Scenes.NAMES) {
            extremes(scene);
            questions(scene);
        }
        somethingHappens();
        C.finish();
    }

    private static void refused(String[] row) {
        BoyBishop x = Scenes.tell(row[0]);
        C.due(row[0] + ": " + row[1], Integer.parseInt(row[2]), Scenes.call(x, row[1]));
        alike(row[0] + ": " + row[1], row[0], x);
        twice(row);
    }

    /** A refused call is refused once more. */
    private static void twice(String[] row) {
        BoyBishop x = Scenes.tell(row[0]);
        Scenes.call(x, row[1]);
        C.due(row[0] + ": " + row[1] + ", once more", Integer.parseInt(row[2]), Scenes.call(x, row[1]));
    }

    private static void alike(String name, String scene, BoyBishop x) {
        C.due(name + ": all is as it was behind it", 1, Arrays.equals(Scenes.later(Scenes.tell(scene)), Scenes.later(x)) ? 1 : 0);
    }

    /** Numbers far from all that there is are refused by each act, whatever the scene. */
    private static void extremes(String scene) {
        for (int far : new int[] {MOST, LEAST, 1000, -1000}) {
            for (String call : new String[] {"visit " + far, "promise 0 " + far, "promise " + far + " 5", "give " + far + " 1",
                "give 0 " + far, "breaks " + far, "image " + far, "back " + far, "end " + far}) {
                refused(new String[] {scene, call, "-1"});
            }
            for (String call : new String[] {"force " + far, "note " + far + " 0", "note 0 " + far}) {
                refused(new String[] {scene, call, "-2"});
            }
        }
    }

    /** "By what is asked nothing changes": each kind of question with all that can be asked, and more. */
    private static void questions(String scene) {
        int[] some = {LEAST, -2, -1, 0, 1, 2, 3, 4, 5, 6, 19, 20, 60, 61, MOST};
        for (String name : new String[] {"method", "least", "round", "best", "ruled", "look", "count"}) {
            BoyBishop x = Scenes.tell(scene);
            for (int a : some) Scenes.call(x, name + " " + a);
            alike(scene + ": " + name, scene, x);
        }
        for (String name : new String[] {"boy", "likes", "canon", "farm", "votes", "winOver", "falls", "likely"}) {
            BoyBishop x = Scenes.tell(scene);
            for (int a : some) {
                for (int b : some) Scenes.call(x, name + " " + a + " " + b);
            }
            alike(scene + ": " + name, scene, x);
        }
        BoyBishop x = Scenes.tell(scene);
        for (int a = -1; a < 4; a++) {
            for (int b = -1; b < 4; b++) {
                for (int what = -1; what < 4; what++) {
                    x.rests(a, b, what);
                    x.ahead(a, b * 20, what);
                    x.winters(a * 3, b * 15, what * 40, what);
                }
            }
        }
        alike(scene + ": rests, ahead and winters", scene, x);
    }

    /** What is looked at later is enough to see each thing that may happen: else the tests above would see nothing. */
    private static void somethingHappens() {
        for (String row : new String[] {"fed|end 9", "fed|rule", "begin|rule", "begin|force 1", "begin|force -1", "begin|day", "bishop|day",
            "bishop|visit 0", "dead|visit 0", "begin|promise 2 1", "begin|promise 0 4", "out|promise 1 10", "full|promise 0 3", "dead|give 0 1", "dead|give 3 2", "begin|breaks 1",
            "out|undo", "full|undo", "begin|note 1 0", "begin|note -1 0", "full|note -1 0", "begin|seed 6", "begin|image 3", "begin|image 0",
            "out|back 1", "full|choir", "bishop|choir", "new|feed 0 0 0 0 0", "nobody|day", "new|image 0"}) {
            String[] parts = row.split("\\|");
            BoyBishop x = Scenes.tell(parts[0]);
            Scenes.call(x, parts[1]);
            boolean same = Arrays.equals(Scenes.later(Scenes.tell(parts[0])), Scenes.later(x));
            C.due(row + " can be seen", 1, same ? 0 : 1);
        }
    }
}
