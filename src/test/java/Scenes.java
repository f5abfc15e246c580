import java.nio.ByteBuffer;
import java.nio.charset.StandardCharsets;
import java.util.ArrayList;
import java.util.Arrays;
import java.util.List;

/** How an object may stand when a call is told: each scene is a list of calls, so that it can be told to two of them, or to Model. */
final class Scenes {
    static final String[] NAMES = {"new", "fed", "wrong", "begin", "bishop", "out", "dead", "full", "broken", "nobody"};
    private static final String OLD = "choir 40 9;boy 99 10 1;boy 50 0 0;canon 99 7;canon 50 1;canon 98 5;canon 99 0;farm 9 3;way 0 1 1";

    private final List<String> calls = new ArrayList<>();

    private Scenes() { }

    static List<String> of(String name) {
        Scenes scene = new Scenes();
        switch (name) {
            case "new" -> { }
            case "fed" -> scene.say("vote voice");
            case "wrong" -> scene.say("vote voice!");
            case "begin" -> scene.begin().say("vote boy");
            case "bishop" -> scene.begin().add("day").add("image 2").say("choir 1 0;boy 1 2 3");
            case "out" -> scene.begin().add("day").add("visit 0").add("promise 1 3");
            case "dead" -> scene.say(OLD).add("choir").add("day", 10).add("image 0").add("day");
            case "full" -> scene.full();
            case "broken" -> scene.begin().add("day").add("breaks 0").add("breaks 1").add("breaks 2").add("day");
            case "nobody" -> scene.say("choir 1 0").add("choir");
            default -> throw new IllegalArgumentException(name);
        }
        return scene.calls;
    }

    private Scenes begin() {
        say(Checks.CHOIR).add("choir").say("vote likes+share").add("rule").say("vote voice").add("rule");
        return add("force 0").add("seed 5").add("note 1 0").add("image 1");
    }

    /** Six rules, ten notes, more than twenty acts, all images, a tape of 400 bytes. */
    private void full() {
        begin();
        for (int i = 2; i < 6; i++) say("vote " + i + "-boy").add("rule");
        for (int i = 2; i <= 10; i++) add("note " + i + " -1");
        for (int i = 0; i < 23; i++) add("promise 0 " + i % 20);
        for (int i = 0; i < 4; i++) add("image " + i);
        say("choir 2 3;boy 9 8 7" + " ".repeat(381));
    }

    private Scenes add(String call) {
        calls.add(call);
        return this;
    }

    private Scenes add(String call, int times) {
        for (int i = 0; i < times; i++) add(call);
        return this;
    }

    private Scenes say(String text) {
        byte[] bytes = text.getBytes(StandardCharsets.ISO_8859_1);
        add("end 0");
        for (int i = 0; i < bytes.length; i += 20) {
            ByteBuffer part = ByteBuffer.wrap(Arrays.copyOfRange(bytes, i, i + 20));
            add("feed " + part.getInt() + " " + part.getInt() + " " + part.getInt() + " " + part.getInt() + " " + part.getInt());
        }
        return add("end " + bytes.length);
    }

    static BoyBishop tell(String scene) {
        BoyBishop x = new BoyBishop();
        for (String call : of(scene)) call(x, call);
        return x;
    }

    static Model tellModel(String scene) {
        Model x = new Model();
        for (String call : of(scene)) call(x, call);
        return x;
    }

    static int call(BoyBishop x, String call) { return Calls.of(x, number(call), arguments(call)); }

    static int call(Model x, String call) { return Calls.of(x, number(call), arguments(call)); }

    private static int number(String call) {
        int number = Arrays.asList(Calls.NAMES).indexOf(call.split(" ")[0]);
        if (number < 0 || arguments(call).length != Calls.ARGUMENTS[number]) throw new IllegalArgumentException(call);
        return number;
    }

    private static int[] arguments(String call) {
        return Arrays.stream(call.split(" ")).skip(1).mapToInt(Integer::parseInt).toArray();
    }

    /** What is asked and done later, by all of which it can be seen how the object stood: fewer calls than an object is used for. */
    static int[] later(BoyBishop x) {
        List<Integer> answers = new ArrayList<>();
        look(x, answers);
        answers.add(x.visit(1));
        answers.add(x.give(0, 1));
        answers.add(x.day());
        glance(x, answers);
        int left = 0;
        for (int i = 0; i < 25 && left >= 0; i++) {
            left = x.undo();
            answers.add(left);
            answers.add(x.count(7));
            answers.add(x.boy(0, 1));
            answers.add(x.count(15));
        }
        answers.add(x.rule());
        answers.add(x.choir());
        glance(x, answers);
        answers.add(x.end(7));
        for (int k = 0; k < 4; k++) {
            answers.add(x.back(k));
            glance(x, answers);
        }
        return answers.stream().mapToInt(Integer::intValue).toArray();
    }

    private static void look(BoyBishop x, List<Integer> answers) {
        glance(x, answers);
        for (int i = 0; i < 3; i++) {
            for (int j = 0; j < 4; j++) {
                answers.add(x.boy(i, j));
                answers.add(x.canon(i, j));
                answers.add(x.farm(i, j));
            }
            for (int j = 0; j < 3; j++) answers.add(x.likes(i, j));
            answers.add(x.votes(i, 0));
            answers.add(x.method(i));
            answers.add(x.ahead(i, 9, i));
            answers.add(x.round(i));
        }
        answers.add(x.winters(2, 9, 20, 1));
        answers.add(x.ruled(1));
        answers.add(x.look(0));
    }

    private static void glance(BoyBishop x, List<Integer> answers) {
        for (int what = 0; what < 20; what++) answers.add(x.count(what));
        answers.add(x.ruled(0));
        answers.add(x.boy(1, 0));
        answers.add(x.boy(0, 3));
        answers.add(x.farm(0, 2));
        answers.add(x.canon(0, 0));
        answers.add(x.canon(1, 3));
    }
}
