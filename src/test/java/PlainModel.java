import java.math.BigInteger;
import java.util.ArrayDeque;
import java.util.ArrayList;
import java.util.Deque;
import java.util.List;
import java.util.regex.Matcher;
import java.util.regex.Pattern;

/**
 * The document once more, by other means: lists of snapshots, regular expressions,
 * every set, order and row of days tried out. It is slow and throws nothing away.
 */
final class PlainModel {
    private static final int BAD = -1, STATE = -2, FULL = -3, NONE = -9, NO = -1000000;
    private static final Pattern TOKEN = Pattern.compile(" *(f|;|[0-9]+|[^ ])", Pattern.DOTALL);

    private record Told(int farm, int field, int shame, int nerve, int keeper) { }

    private record Seen(int d, int m, boolean had) {
        boolean fits(int shame, int nerve) {
            return had == (shame <= d || nerve <= m);
        }
    }

    private record Now(int day, List<Boolean> asked, List<Integer> left, List<Integer> keeper) {
        int askers() {
            return (int) asked.stream().filter(a -> a).count();
        }

        int bits() {
            int bits = 0;
            for (int f = 0; f < asked.size(); f++) {
                bits += asked.get(f) ? 1 << f : 0;
            }
            return bits;
        }

        int together() {
            return left.stream().mapToInt(Integer::intValue).sum();
        }

        Now brought(int bits) {
            List<Boolean> then = new ArrayList<>(asked);
            for (int f = 0; f < then.size(); f++) {
                if ((bits & 1 << f) != 0) {
                    then.set(f, true);
                }
            }
            return new Now(day, then, left, keeper);
        }
    }

    private final StringBuilder text = new StringBuilder();
    private List<Told> told = List.of();
    private Now now = new Now(0, List.of(), List.of(), List.of());
    private final Deque<Now> before = new ArrayDeque<>();
    private final Now[] images = new Now[2];
    private final List<Seen> seen = new ArrayList<>();
    private long trace;

    int type(int letter) {
        if (letter < 0 || letter > 255) {
            return BAD;
        }
        if (text.length() == 140) {
            return FULL;
        }
        return text.append((char) letter).length();
    }

    int clear() {
        int had = text.length();
        text.setLength(0);
        return had;
    }

    int valley() {
        List<Told> read = new ArrayList<>();
        int fault = fault(read);
        if (fault >= 0) {
            return -10 - fault;
        }
        text.setLength(0);
        told = read;
        now = new Now(0, read.stream().map(t -> false).toList(), read.stream().map(Told::field).toList(),
                read.stream().map(Told::keeper).toList());
        before.clear();
        seen.clear();
        images[0] = null;
        images[1] = null;
        return read.size();
    }

    private int fault(List<Told> read) {
        int[] least = {0, 1, 0, 0, 0};
        int[] most = {30, 9, 20, 6, 5};
        List<Integer> numbers = new ArrayList<>();
        boolean open = false;
        for (Matcher m = TOKEN.matcher(text); m.find();) {
            String token = m.group(1);
            boolean right;
            if (!open) {
                right = token.equals("f") && read.size() < 6;
                open = true;
                numbers.clear();
            } else if (numbers.size() == 5) {
                right = token.equals(";");
                open = false;
                read.add(new Told(numbers.get(0), numbers.get(1), numbers.get(2), numbers.get(3), numbers.get(4)));
            } else {
                int part = numbers.size();
                right = token.matches("0|[1-9][0-9]?");
                int number = right ? Integer.parseInt(token) : -1;
                right &= number >= least[part] && number <= most[part] && (part != 4 || number != read.size());
                numbers.add(number);
            }
            if (!right) {
                return m.start(1);
            }
        }
        boolean strangeKeeper = read.stream().anyMatch(t -> t.keeper() >= read.size());
        return open || strangeKeeper ? text.length() : -1;
    }

    private boolean there(int f) {
        return f >= 0 && f < told.size();
    }

    int farmer(int f, int what) {
        if (!there(f) || what < 0 || what > 9) {
            return BAD;
        }
        Told t = told.get(f);
        return switch (what) {
            case 0 -> t.farm();
            case 1 -> now.left().get(f);
            case 2 -> t.shame();
            case 3 -> t.nerve();
            case 4 -> now.keeper().get(f);
            case 5 -> now.asked().get(f) ? 1 : 0;
            case 6 -> hungWith(f);
            case 7 -> ring(f);
            case 8 -> asks(f);
            default -> done(f, f);
        };
    }

    private int hungWith(int k) {
        int bits = 0;
        for (int f = 0; f < told.size(); f++) {
            bits += now.keeper().get(f) == k ? 1 << f : 0;
        }
        return bits;
    }

    private int ring(int f) {
        List<Integer> way = new ArrayList<>();
        for (int one = f; !way.contains(one); one = now.keeper().get(one)) {
            way.add(one);
        }
        return now.keeper().get(way.get(way.size() - 1)) == f ? way.size() : 0;
    }

    private int asks(int f) {
        Now then = now;
        for (int days = 0; days <= 60; days++) {
            if (then.asked().get(f)) {
                return days;
            }
            then = after(then, true);
        }
        return NONE;
    }

    private int done(int first, int last) {
        Now then = now;
        for (int days = 0; days <= 60; days++) {
            int left = 0;
            for (int f = first; f <= last; f++) {
                left += then.left().get(f);
            }
            if (left == 0) {
                return days;
            }
            then = after(then, true);
        }
        return NONE;
    }

    private Now after(Now start, boolean dry) {
        List<Boolean> asked = new ArrayList<>(start.asked());
        for (int f = 0; f < told.size(); f++) {
            int others = start.askers() - (start.asked().get(f) ? 1 : 0);
            if (!start.asked().get(f) && (told.get(f).shame() <= start.day() || others >= told.get(f).nerve())) {
                asked.set(f, true);
            }
        }
        List<Integer> left = new ArrayList<>(start.left());
        if (dry) {
            for (int f = 0; f < told.size(); f++) {
                if (asked.get(f) && start.left().get(f) > 0) {
                    left.set(f, left.get(f) - 1);
                }
            }
            for (int f = 0; f < told.size(); f++) {
                if (asked.get(f) && start.left().get(f) == 0) {
                    help(f, start, asked, left);
                }
            }
        }
        return new Now(start.day() + 1, asked, left, start.keeper());
    }

    private static void help(int k, Now start, List<Boolean> asked, List<Integer> left) {
        for (int f = 0; f < left.size(); f++) {
            if (start.keeper().get(f) == k && asked.get(f) && left.get(f) > 0) {
                left.set(f, left.get(f) - 1);
                return;
            }
        }
    }

    int now(int what) {
        return switch (what) {
            case 0 -> now.day();
            case 1 -> now.bits();
            case 2 -> now.together();
            case 3 -> done(0, told.size() - 1);
            case 4 -> before.size();
            default -> BAD;
        };
    }

    private void become(Now then) {
        before.addLast(now);
        if (before.size() > 10) {
            before.removeFirst();
        }
        now = then;
    }

    int day(int dry) {
        if (dry < 0 || dry > 1) {
            return BAD;
        }
        if (now.day() == 999) {
            return STATE;
        }
        int had = now.together();
        become(after(now, dry == 1));
        return had - now.together();
    }

    int brings(int f) {
        if (!there(f)) {
            return BAD;
        }
        if (now.asked().get(f)) {
            return STATE;
        }
        become(now.brought(1 << f));
        return now.askers();
    }

    int hangs(int f, int keeper) {
        if (!there(f) || !there(keeper) || f == keeper) {
            return BAD;
        }
        int had = now.keeper().get(f);
        if (now.asked().get(f) || had == keeper) {
            return STATE;
        }
        List<Integer> keepers = new ArrayList<>(now.keeper());
        keepers.set(f, keeper);
        become(new Now(now.day(), now.asked(), now.left(), keepers));
        return had;
    }

    int undo() {
        if (before.isEmpty()) {
            return STATE;
        }
        now = before.removeLast();
        return before.size();
    }

    int start(int n) {
        if (n < 0 || n > 20) {
            return BAD;
        }
        for (int many = 0; many <= told.size(); many++) {
            for (int set = 0; set < 1 << told.size(); set++) {
                if (Integer.bitCount(set) == many && (set & now.bits()) == 0) {
                    Now then = now.brought(set);
                    for (int i = 0; i < n; i++) {
                        then = after(then, true);
                    }
                    if (!then.asked().contains(false)) {
                        return set;
                    }
                }
            }
        }
        throw new IllegalStateException("all of them would do");
    }

    int hang(int f) {
        if (f != -1 && !there(f)) {
            return BAD;
        }
        if (told.isEmpty()) {
            return NONE;
        }
        int size = told.size();
        int[] best = null;
        int least = 0;
        int ways = 1;
        for (int i = 0; i < size; i++) {
            ways *= size;
        }
        // a way is a number of 'size' digits, that of FARMER 0 ahead: counting up is their order
        for (int way = 0; way < ways; way++) {
            int[] keeper = new int[size];
            int rest = way;
            int taken = 0;
            int far = 0;
            for (int i = size - 1; i >= 0; i--) {
                keeper[i] = rest % size;
                rest /= size;
                taken |= keeper[i] == i ? 0 : 1 << keeper[i];
                far += Math.abs(told.get(i).farm() - told.get(keeper[i]).farm());
            }
            if (Integer.bitCount(taken) == size && (best == null || far < least)) {
                best = keeper;
                least = far;
            }
        }
        return f == -1 ? least : best[f];
    }

    int odds(int f, int x, int n, int what) {
        if (!there(f) || x < 0 || x > 10 || n < 0 || n > 8 || what < 0 || what > 1) {
            return BAD;
        }
        BigInteger upper = BigInteger.ZERO;
        for (int row = 0; row < 1 << n; row++) {
            int dry = Integer.bitCount(row);
            if (dry >= now.left().get(f)) {
                upper = upper.add(BigInteger.valueOf(x).pow(dry).multiply(BigInteger.valueOf(10 - x).pow(n - dry)));
            }
        }
        BigInteger lower = BigInteger.TEN.pow(n);
        return (what == 0 ? upper : lower).divide(upper.gcd(lower)).intValueExact();
    }

    int sees(int d, int m, int had) {
        if (d < 0 || d > 20 || m < 0 || m > 6 || had < 0 || had > 1) {
            return BAD;
        }
        if (seen.size() == 6) {
            return FULL;
        }
        seen.add(new Seen(d, m, had == 1));
        return seen.size();
    }

    int forget() {
        int had = seen.size();
        seen.clear();
        return had;
    }

    private List<int[]> twos() {
        List<int[]> twos = new ArrayList<>();
        for (int i = 0; i < 147; i++) {
            int shame = i / 7;
            int nerve = i % 7;
            if (seen.stream().allMatch(s -> s.fits(shame, nerve))) {
                twos.add(new int[] {shame, nerve});
            }
        }
        return twos;
    }

    int ones(int what) {
        return switch (what) {
            case 0 -> twos().size();
            case 1 -> twos().stream().mapToInt(t -> t[0]).min().orElse(NONE);
            case 2 -> twos().stream().mapToInt(t -> t[0]).max().orElse(NONE);
            default -> BAD;
        };
    }

    int look(int d) {
        if (d < 0 || d > 20) {
            return BAD;
        }
        List<int[]> twos = twos();
        if (twos.size() < 2) {
            return NONE;
        }
        long[] greater = new long[7];
        int best = 0;
        for (int m = 0; m <= 6; m++) {
            Seen would = new Seen(d, m, true);
            long had = twos.stream().filter(t -> would.fits(t[0], t[1])).count();
            greater[m] = Math.max(had, twos.size() - had);
            best = greater[m] < greater[best] ? m : best;
        }
        return best;
    }

    int rate(int kind, int f) {
        if (kind < 0 || kind > 5 || !there(f)) {
            return NO;
        }
        int left = now.left().get(f);
        int kept = Integer.bitCount(hungWith(f));
        int shame = told.get(f).shame();
        int[] rates = {left, left + kept, left - shame, 2 * (left + kept), left - shame + f, left + now.day()};
        int[] traces = {1, 11, 101, 1011, 10101, 100001};
        trace += traces[kind];
        return rates[kind];
    }

    int keep(int image) {
        if (image < 0 || image > 1) {
            return BAD;
        }
        images[image] = now;
        return now.day();
    }

    int back(int image) {
        if (image < 0 || image > 1) {
            return BAD;
        }
        if (images[image] == null) {
            return STATE;
        }
        now = images[image];
        before.clear();
        return now.day();
    }

    int count(int what) {
        return switch (what) {
            case 0 -> told.size();
            case 1 -> seen.size();
            case 2 -> text.length();
            default -> BAD;
        };
    }

    long trace() {
        return trace;
    }
}
