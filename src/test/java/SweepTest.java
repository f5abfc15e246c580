import java.util.ArrayList;
import java.util.List;

/** Each call in each scene with arguments on both sides of all edges: the class answers as Model does, and stands as it does then. */
public final class SweepTest {
    private static final Checks C = new Checks("SweepTest");
    private static final int MOST = Integer.MAX_VALUE;
    private static final int LEAST = Integer.MIN_VALUE;
    private static final int[] ALL = {LEAST, LEAST + 1, -3, -2, -1, 0, 1, 2, 3, 4, 5, 6, 7, 8, 9, 10, 11, 12, 13, 14, 15, 16, 17, 18, 19, 20, 21,
        39, 40, 41, 59, 60, 61, 99, 100, 101, 399, 400, 401, 998, 999, 1000, MOST - 1, MOST};
    private static final int[] SOME = {LEAST, -2, -1, 0, 1, 2, 3, 4, 5, 6, 9, 10, 11, 19, 20, 21, 59, 60, 61, MOST};
    private static final int[] FEW = {LEAST, -2, -1, 0, 1, 2, 3, 6, 10, 11, 60, 61, 100, 101, MOST};

    private SweepTest() { }

    public static void main(String[] args) {
        for (String scene : Scenes.NAMES) {
            for (int call = 1; call < Calls.NAMES.length; call++) {
                boolean asks = call >= 15 && call != 25 && call != 28 && call < 31 || call >= 5 && call <= 8;
                sweep(scene, call, asks);
            }
        }
        C.finish();
    }

    private static void sweep(String scene, int call, boolean asks) {
        BoyBishop x = Scenes.tell(scene);
        Model y = Scenes.tellModel(scene);
        for (int[] a : arguments(Calls.ARGUMENTS[call])) {
            C.due(scene + ": " + Calls.NAMES[call] + java.util.Arrays.toString(a), Calls.of(y, call, a), Calls.of(x, call, a));
            if (!asks) {
                for (int what = 0; what < 20; what++) C.due("then count(" + what + ")", y.count(what), x.count(what));
                x = Scenes.tell(scene);
                y = Scenes.tellModel(scene);
            }
        }
    }

    private static List<int[]> arguments(int count) {
        List<int[]> rows = new ArrayList<>();
        if (count == 0) rows.add(new int[0]);
        if (count == 1) for (int a : ALL) rows.add(new int[] {a});
        if (count == 2) for (int a : SOME) for (int b : SOME) rows.add(new int[] {a, b});
        if (count == 3) for (int a : FEW) for (int b : FEW) for (int c : FEW) rows.add(new int[] {a, b, c});
        if (count == 4) for (int a : FEW) for (int b : FEW) for (int c : FEW) for (int d = -1; d < 3; d++) rows.add(new int[] {a, b, c, d});
        return rows;
    }
}
