/** All that an object can be asked for, as one text; it is used up by that (some 400 calls). */
final class Whole {
    private static final int[] DAYS = {0, 1, 3, 7, 20};

    private Whole() {
    }

    static String of(ScytheKeepers x) {
        StringBuilder all = new StringBuilder();
        tellFarmers(x, all);
        tellBest(x, all);
        tellStranger(x, all);
        all.append(" trace ").append(x.trace());
        for (int what = 0; what <= 2; what++) {
            all.append(" count ").append(x.count(what));
        }
        spend(x, all);
        return all.toString();
    }

    private static void tellFarmers(ScytheKeepers x, StringBuilder all) {
        for (int f = 0; f < x.count(0); f++) {
            for (int what = 0; what <= 9; what++) {
                all.append(" farmer ").append(x.farmer(f, what));
            }
        }
        for (int what = 0; what <= 4; what++) {
            all.append(" now ").append(x.now(what));
        }
    }

    private static void tellBest(ScytheKeepers x, StringBuilder all) {
        for (int n : DAYS) {
            all.append(" start ").append(x.start(n));
        }
        for (int f = -1; f < x.count(0); f++) {
            all.append(" hang ").append(x.hang(f)).append(" odds ").append(x.odds(f, 3, 8, 0));
        }
    }

    private static void tellStranger(ScytheKeepers x, StringBuilder all) {
        for (int what = 0; what <= 2; what++) {
            all.append(" ones ").append(x.ones(what));
        }
        for (int d : DAYS) {
            all.append(" look ").append(x.look(d));
        }
    }

    /** What can't be asked for without being changed: what may be UNDONE, IMAGES, THE TEXT. */
    private static void spend(ScytheKeepers x, StringBuilder all) {
        for (int i = 0; i <= 10; i++) {
            all.append(" undo ").append(x.undo());
            tellNow(x, all);
        }
        for (int image = 0; image <= 1; image++) {
            all.append(" back ").append(x.back(image));
            tellNow(x, all);
        }
        all.append(" valley ").append(x.valley());
        tellNow(x, all);
    }

    private static void tellNow(ScytheKeepers x, StringBuilder all) {
        all.append(' ').append(x.now(0)).append(' ').append(x.now(1));
        for (int f = 0; f < x.count(0); f++) {
            all.append(' ').append(x.farmer(f, 1)).append(' ').append(x.farmer(f, 4));
        }
    }
}
