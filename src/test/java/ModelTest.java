import java.util.Random;

/** Runs of 512 calls, the same ones each time, against PlainModel: all that can be asked is compared. */
public final class ModelTest {
    private static final int RUNS = 1500;
    private static final int CALLS = 512;
    private static final int MOST_TOLD = 20;

    private final Random random;
    private final int run;
    private final ScytheKeepers real = new ScytheKeepers();
    private final PlainModel plain = new PlainModel();
    private final StringBuilder calls = new StringBuilder();
    private int made;
    private boolean wrong;

    private ModelTest(int run) {
        this.run = run;
        this.random = new Random(run);
    }

    public static void main(String[] args) {
        int wrong = 0;
        for (int run = 0; run < RUNS && wrong < MOST_TOLD; run++) {
            ModelTest one = new ModelTest(run);
            one.go();
            wrong += one.wrong ? 1 : 0;
        }
        System.out.println(RUNS + " runs, " + wrong + " wrong");
        if (wrong != 0) {
            System.exit(1);
        }
    }

    private void go() {
        while (made < CALLS && !wrong) {
            int kind = random.nextInt(100);
            if (made == 0 && random.nextInt(20) > 0 || kind == 0) {
                write(rightText());
                readText();
            } else if (kind == 1) {
                write(spoilt(rightText()));
                readText();
            } else {
                one(random.nextInt(22));
            }
        }
    }

    private void same(String call, long got, long want) {
        made++;
        calls.append(call).append(' ');
        if (got != want && !wrong) {
            wrong = true;
            System.out.println("run " + run + ": " + calls + "answered " + got + ", due is " + want);
        }
    }

    private String rightText() {
        int size = 2 + random.nextInt(5);
        StringBuilder text = new StringBuilder();
        for (int f = 0; f < size; f++) {
            int keeper = random.nextInt(size - 1);
            text.append('f').append(random.nextInt(31)).append(' ').append(1 + random.nextInt(9)).append(' ')
                    .append(random.nextInt(21)).append(' ').append(random.nextInt(7)).append(' ')
                    .append(keeper < f ? keeper : keeper + 1).append(';');
        }
        return text.toString();
    }

    private String spoilt(String text) {
        StringBuilder s = new StringBuilder(text);
        for (int i = random.nextInt(3); i >= 0; i--) {
            int place = random.nextInt(s.length());
            char letter = "f; 0123456789xF/:".charAt(random.nextInt(17));
            switch (random.nextInt(4)) {
                case 0 -> s.setCharAt(place, letter);
                case 1 -> s.insert(place, letter);
                case 2 -> s.deleteCharAt(place);
                default -> s.insert(place, " ");
            }
        }
        return s.toString();
    }

    private void write(String text) {
        for (int i = 0; i < text.length(); i++) {
            same("type(" + (int) text.charAt(i) + ")", real.type(text.charAt(i)), plain.type(text.charAt(i)));
        }
    }

    private void readText() {
        same("valley()", real.valley(), plain.valley());
        if (random.nextInt(4) > 0) {
            same("clear()", real.clear(), plain.clear());
        }
        for (int f = 0; f < 6; f++) {
            for (int what = 0; what < 5; what++) {
                same("farmer(" + f + "," + what + ")", real.farmer(f, what), plain.farmer(f, what));
            }
        }
    }

    /** A number from 0 to most, now and then one beyond. */
    private int some(int most) {
        return random.nextInt(25) == 0 ? (random.nextBoolean() ? -1 : most + 1) : random.nextInt(most + 1);
    }

    private void one(int call) {
        int f = some(5);
        switch (call) {
            case 0, 1, 2, 3 -> changes(call, f);
            case 4, 5, 6, 7 -> asksOfNow(call, f);
            case 8, 9, 10 -> asksOfBest(call, f);
            case 11, 12, 13, 14, 15 -> asksOfStranger(call);
            default -> asksOfKinds(call, f);
        }
    }

    private void changes(int call, int f) {
        int other = some(5);
        int dry = random.nextInt(4) == 0 ? 0 : some(1);
        switch (call) {
            case 0 -> same("day(" + dry + ")", real.day(dry), plain.day(dry));
            case 1 -> same("brings(" + f + ")", real.brings(f), plain.brings(f));
            case 2 -> same("hangs(" + f + "," + other + ")", real.hangs(f, other), plain.hangs(f, other));
            default -> same("undo()", real.undo(), plain.undo());
        }
    }

    private void asksOfNow(int call, int f) {
        int what = some(9);
        int which = some(4);
        if (call < 6) {
            same("farmer(" + f + "," + what + ")", real.farmer(f, what), plain.farmer(f, what));
        } else {
            same("now(" + which + ")", real.now(which), plain.now(which));
        }
    }

    private void asksOfBest(int call, int f) {
        int n = some(20);
        int x = some(10);
        int days = some(8);
        int what = some(1);
        int hung = some(6) - 1;
        switch (call) {
            case 8 -> same("start(" + n + ")", real.start(n), plain.start(n));
            case 9 -> same("hang(" + hung + ")", real.hang(hung), plain.hang(hung));
            default -> same("odds(" + f + "," + x + "," + days + "," + what + ")",
                    real.odds(f, x, days, what), plain.odds(f, x, days, what));
        }
    }

    private void asksOfStranger(int call) {
        int d = some(20);
        int m = some(6);
        int had = some(1);
        int what = some(2);
        switch (call) {
            case 11 -> same("sees(" + d + "," + m + "," + had + ")", real.sees(d, m, had), plain.sees(d, m, had));
            case 12 -> same("look(" + d + ")", real.look(d), plain.look(d));
            case 13, 14 -> same("ones(" + what + ")", real.ones(what), plain.ones(what));
            default -> {
                if (random.nextInt(4) == 0) {
                    same("forget()", real.forget(), plain.forget());
                }
            }
        }
    }

    private void asksOfKinds(int call, int f) {
        int kind = some(5);
        int image = some(1);
        int what = some(2);
        switch (call) {
            case 16, 17 -> same("rate(" + kind + "," + f + ")", real.rate(kind, f), plain.rate(kind, f));
            case 18 -> same("keep(" + image + ")", real.keep(image), plain.keep(image));
            case 19 -> same("back(" + image + ")", real.back(image), plain.back(image));
            case 20 -> same("count(" + what + ")", real.count(what), plain.count(what));
            default -> same("trace()", real.trace(), plain.trace());
        }
    }
}
