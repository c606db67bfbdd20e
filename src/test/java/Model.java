import java.util.ArrayDeque;
import java.util.ArrayList;
import java.util.Arrays;
import java.util.HashMap;
import java.util.HashSet;
import java.util.List;
import java.util.Map;
import java.util.Set;
import java.util.TreeMap;
import java.util.TreeSet;
import java.util.regex.Matcher;
import java.util.regex.Pattern;

/** The document once more, written from its words alone and slowly, to be compared with the program. */
final class Model {
    private static final int NONE = -1;
    private static final int BOTH = 20;

    /** A call that the document refuses; REFUSED carries the number. */
    private static final class Refused extends RuntimeException {
        private final int why;

        Refused(int why) {
            super(null, null, false, false);
            this.why = why;
        }
    }

    private static final class Fault extends RuntimeException {
        private final int place;

        Fault(int place) {
            super(null, null, false, false);
            this.place = place;
        }
    }

    private static final class Ring {
        boolean on = true;
        boolean stuck = false;
        int must = 0;
        int not = 0;
    }

    private static final class Rod {
        final int kind;
        final List<Ring> rings = new ArrayList<>();

        Rod(int kind, int size) {
            this.kind = kind;
            for (int i = 0; i < size; i++) {
                rings.add(new Ring());
            }
        }

        Rod twin() {
            Rod t = new Rod(kind, rings.size());
            for (int i = 0; i < rings.size(); i++) {
                t.rings.get(i).on = rings.get(i).on;
                t.rings.get(i).stuck = rings.get(i).stuck;
                t.rings.get(i).must = rings.get(i).must;
                t.rings.get(i).not = rings.get(i).not;
            }
            return t;
        }

        int on() {
            int bits = 0;
            for (int i = 0; i < rings.size(); i++) {
                bits += rings.get(i).on ? 1 << i : 0;
            }
            return bits;
        }

        int stuck() {
            int bits = 0;
            for (int i = 0; i < rings.size(); i++) {
                bits += rings.get(i).stuck ? 1 << i : 0;
            }
            return bits;
        }

        void putOn(int bits) {
            for (int i = 0; i < rings.size(); i++) {
                rings.get(i).on = (bits / (1 << i)) % 2 == 1;
            }
        }

        void stick(int bits) {
            for (int i = 0; i < rings.size(); i++) {
                rings.get(i).stuck = (bits / (1 << i)) % 2 == 1;
            }
        }

        int sets() {
            return 1 << rings.size();
        }

        boolean isMove(long move) {
            return (move >= 0 && move < rings.size()) || (move == BOTH && kind == 2 && rings.size() >= 2);
        }

        boolean may(int set, long move) {
            if (!isMove(move)) {
                return false;
            }
            if (move == BOTH) {
                boolean a = set % 2 == 1;
                boolean b = set / 2 % 2 == 1;
                return a == b && !rings.get(0).stuck && !rings.get(1).stuck;
            }
            int k = (int) move;
            if (rings.get(k).stuck) {
                return false;
            }
            switch (kind) {
                case 0:
                    return true;
                case 1:
                case 2:
                    return asChain(set, k);
                case 3:
                    return asChain(set, k) || asAfter(set, k);
                case 4:
                    return asAfter(set, k);
                default:
                    for (int i = 0; i < rings.size(); i++) {
                        boolean is = (set >> i & 1) == 1;
                        if ((rings.get(k).must >> i & 1) == 1 && !is || (rings.get(k).not >> i & 1) == 1 && is) {
                            return false;
                        }
                    }
                    return true;
            }
        }

        private boolean asChain(int set, int k) {
            if (k == 0) {
                return true;
            }
            for (int i = 0; i < k - 1; i++) {
                if ((set >> i & 1) == 1) {
                    return false;
                }
            }
            return (set >> k - 1 & 1) == 1;
        }

        private boolean asAfter(int set, int k) {
            int mirrored = 0;
            for (int i = 0; i < rings.size(); i++) {
                mirrored |= (set >> i & 1) << rings.size() - 1 - i;
            }
            return asChain(mirrored, rings.size() - 1 - k);
        }

        List<Integer> legal(int set) {
            List<Integer> all = new ArrayList<>();
            for (int move = 0; move <= BOTH; move++) {
                if (may(set, move)) {
                    all.add(move);
                }
            }
            return all;
        }

        /** The first shortest row of moves to each set: forward, so that rows of one length come in their order. */
        Map<Integer, List<Integer>> waysFrom(int from) {
            Map<Integer, List<Integer>> ways = new TreeMap<>();
            ArrayDeque<Integer> open = new ArrayDeque<>();
            ways.put(from, List.of());
            open.add(from);
            while (!open.isEmpty()) {
                int set = open.remove();
                for (int move : legal(set)) {
                    int other = after(set, move);
                    if (!ways.containsKey(other)) {
                        List<Integer> way = new Chain(ways.get(set), move);
                        ways.put(other, way);
                        open.add(other);
                    }
                }
            }
            return ways;
        }

        List<Integer> way(int from, int to) {
            List<Integer> way = waysFrom(from).get(to);
            return way == null ? null : new ArrayList<>(way);
        }
    }

    /** A row of moves with one more behind it; copies of long rows would be too many. */
    private static final class Chain extends java.util.AbstractList<Integer> {
        private final List<Integer> ahead;
        private final int last;
        private final int size;

        Chain(List<Integer> ahead, int last) {
            this.ahead = ahead;
            this.last = last;
            this.size = ahead.size() + 1;
        }

        @Override
        public int size() {
            return size;
        }

        @Override
        public Integer get(int i) {
            List<Integer> at = this;
            while (at instanceof Chain && ((Chain) at).size - 1 > i) {
                at = ((Chain) at).ahead;
            }
            return ((Chain) at).last;
        }
    }

    private static int after(int set, int move) {
        if (move == BOTH) {
            return set ^ 1 ^ 2;
        }
        return set ^ 1 << move;
    }

    /** What image() keeps. */
    private static final class World {
        List<Rod> rods = new ArrayList<>();
        int[] minutes = {1, 1, 1, 1, 1, 1, 1, 1, 1, 1};
        int moved = 0;
        int seed = 1;

        World twin() {
            World t = new World();
            for (Rod rod : rods) {
                t.rods.add(rod.twin());
            }
            t.minutes = minutes.clone();
            t.moved = moved;
            t.seed = seed;
            return t;
        }

        int minutesOf(int move) {
            return move == BOTH ? Math.max(minutes[0], minutes[1]) : minutes[move];
        }

        void make(Rod rod, int move) {
            rod.putOn(after(rod.on(), move));
            moved++;
        }
    }

    private World world = new World();
    private World image = null;
    private final Object[] shelves = new Object[8];
    private StringBuilder tape = new StringBuilder();
    private final int[] refusals = new int[5];

    /** One call by its name and numbers. */
    long call(String name, long[] a) {
        try {
            return answer(name, a);
        } catch (Refused refused) {
            refusals[-2 - refused.why]++;
            return refused.why;
        }
    }

    private static void need(boolean so, int why) {
        if (!so) {
            throw new Refused(why);
        }
    }

    private static void good(boolean so) {
        need(so, -2);
    }

    private static boolean in(long v, long least, long most) {
        return v >= least && v <= most;
    }

    private Rod rod(long bar) {
        good(in(bar, 0, world.rods.size() - 1));
        return world.rods.get((int) bar);
    }

    private static int set(Rod rod, long set) {
        good(in(set, 0, rod.sets() - 1));
        return (int) set;
    }

    private static int ring(Rod rod, long ring) {
        good(in(ring, 0, rod.rings.size() - 1));
        return (int) ring;
    }

    private long answer(String name, long[] a) {
        switch (name) {
            case "row": case "set": case "copy": case "element": case "holds": case "show": case "says":
                return shelf(name, a);
            case "bar": case "put": case "stick": case "table": case "minutes": case "barOf":
                return asItIs(name, a);
            case "feed": case "wipe": case "bars":
                return onTape(name, a);
            case "may": case "moves": case "move": case "fewest": case "way": case "between":
            case "place": case "setOf": case "time": case "bell": case "lock":
                return moving(name, a);
            case "reach": case "farthest": case "shape": case "parts": case "longest": case "save":
            case "luck": case "movable": case "ends": case "first": case "chance":
                return comes(name, a);
            case "pictures": case "broken": case "once": case "judge": case "behind": case "moved":
                return rows(name, a);
            default:
                return rest(name, a);
        }
    }

    // Rows are arrays of Java's own sorts, so that what they keep is Java's own narrowing.

    private static Object newRow(int sort, int n) {
        switch (sort) {
            case 0:
                return new byte[n];
            case 1:
                return new short[n];
            case 2:
                return new int[n];
            case 3:
                return new long[n];
            default:
                return new boolean[n];
        }
    }

    private static int sortOf(Object row) {
        List<Class<?>> sorts = List.of(byte[].class, short[].class, int[].class, long[].class, boolean[].class);
        return sorts.indexOf(row.getClass());
    }

    private static long cell(Object row, int i) {
        Object v = java.lang.reflect.Array.get(row, i);
        return v instanceof Boolean ? (Boolean) v ? 1 : 0 : ((Number) v).longValue();
    }

    private static int length(Object row) {
        return java.lang.reflect.Array.getLength(row);
    }

    private static boolean isRow(Object held) {
        return held != null && held.getClass().isArray();
    }

    private long shelf(String name, long[] a) {
        boolean is = in(a[0], 0, 7);
        Object held = is ? shelves[(int) a[0]] : null;
        switch (name) {
            case "row":
                good(is && in(a[1], 0, 4) && in(a[2], 0, 40));
                shelves[(int) a[0]] = newRow((int) a[1], (int) a[2]);
                return 1;
            case "set":
                good(is);
                need(!(held instanceof Rod), -3);
                need(held != null, -4);
                good(in(a[1], 0, length(held) - 1));
                int i = (int) a[1];
                if (held instanceof byte[]) {
                    ((byte[]) held)[i] = (byte) a[2];
                } else if (held instanceof short[]) {
                    ((short[]) held)[i] = (short) a[2];
                } else if (held instanceof int[]) {
                    ((int[]) held)[i] = (int) a[2];
                } else if (held instanceof long[]) {
                    ((long[]) held)[i] = a[2];
                } else {
                    ((boolean[]) held)[i] = a[2] != 0;
                }
                return 1;
            case "copy":
                return copyRow(a, held);
            case "element":
                return isRow(held) && in(a[1], 0, length(held) - 1) ? cell(held, (int) a[1]) : 0;
            case "holds":
                return held == null ? NONE : isRow(held) ? sortOf(held) : 10 + world.rods.indexOf(held);
            case "show":
                good(is && in(a[1], NONE, world.rods.size() - 1));
                shelves[(int) a[0]] = a[1] == NONE ? null : world.rods.get((int) a[1]);
                return 1;
            default:
                good(is && in(a[1], 0, 5));
                need(!isRow(held), -3);
                need(held == null || kindsAbove(((Rod) held).kind).contains((int) a[1]), -3);
                need(held != null, -4);
                return says((Rod) held, (int) a[1]);
        }
    }

    private long copyRow(long[] a, Object from) {
        good(in(a[0], 0, 7) && in(a[1], 0, 7));
        Object to = shelves[(int) a[1]];
        need(!(from instanceof Rod) && !(to instanceof Rod), -3);
        need(from == null || to == null || sortOf(from) == sortOf(to), -3);
        need(from != null && to != null, -4);
        good(a[2] >= 0 && a[3] >= 0 && a[4] >= 0 && a[2] + a[4] <= length(from) && a[3] + a[4] <= length(to));
        System.arraycopy(from, (int) a[2], to, (int) a[3], (int) a[4]);
        return a[4];
    }

    private static List<Integer> kindsAbove(int kind) {
        switch (kind) {
            case 0:
                return List.of(0);
            case 2:
            case 4:
                return List.of(kind, 1, 0);
            default:
                return List.of(kind, 0);
        }
    }

    private long says(Rod rod, int kind) {
        switch (kind) {
            case 0:
                return rod.rings.stream().filter(r -> r.on).count();
            case 1:
                int set = 0;
                for (int i = 0; i < rod.rings.size(); i++) {
                    if (rod.rings.get(i).on) {
                        set += rod.kind == 4 ? 1 << rod.rings.size() - 1 - i : 1 << i;
                    }
                }
                return place(set);
            case 2:
                List<Integer> way = rod.way(rod.on(), 0);
                return way == null ? NONE : way.size();
            case 3:
                return rod.legal(rod.on()).size();
            case 4:
                int last = NONE;
                for (int i = 0; i < rod.rings.size(); i++) {
                    last = rod.rings.get(i).on ? i : last;
                }
                return last;
            default:
                return rod.rings.stream().filter(r -> r.must != 0 || r.not != 0).count();
        }
    }

    /** The uppermost ring that is on comes off from the place twice as far as the ring below is. */
    private static long place(long set) {
        if (set == 0) {
            return 0;
        }
        long top = Long.highestOneBit(set);
        return 2 * top - 1 - place(set - top);
    }

    private static long setAt(long place) {
        if (place == 0) {
            return 0;
        }
        long top = Long.highestOneBit(place);
        return top + setAt(2 * top - 1 - place);
    }

    private long asItIs(String name, long[] a) {
        Rod rod;
        int were;
        switch (name) {
            case "bar":
                good(in(a[0], 0, 5) && in(a[1], 1, 10));
                need(world.rods.size() < 4, -6);
                world.rods.add(new Rod((int) a[0], (int) a[1]));
                return world.rods.size() - 1;
            case "put":
                rod = rod(a[0]);
                were = rod.on();
                rod.putOn(set(rod, a[1]));
                return were;
            case "stick":
                rod = rod(a[0]);
                were = rod.stuck();
                rod.stick(set(rod, a[1]));
                return were;
            case "table":
                rod = rod(a[0]);
                Ring ring = rod.rings.get(ring(rod, a[1]));
                int must = set(rod, a[2]);
                int not = set(rod, a[3]);
                need(rod.kind == 5, -5);
                ring.must = must;
                ring.not = not;
                return 1;
            case "minutes":
                good(in(a[0], 0, 9) && in(a[1], 0, 99));
                were = world.minutes[(int) a[0]];
                world.minutes[(int) a[0]] = (int) a[1];
                return were;
            default:
                rod = rod(a[0]);
                if (in(a[1], 0, 3)) {
                    return new int[] {rod.kind, rod.rings.size(), rod.on(), rod.stuck()}[(int) a[1]];
                }
                if (in(a[1], 10, 19)) {
                    return rod.rings.get(ring(rod, a[1] - 10)).must;
                }
                return rod.rings.get(ring(rod, a[1] - 20)).not;
        }
    }

    private static final class Token {
        final String text;
        final int place;

        Token(String text, int place) {
            this.text = text;
            this.place = place;
        }
    }

    private long onTape(String name, long[] a) {
        if (name.equals("feed")) {
            good(in(a[0], 0, 255));
            need(tape.length() < 250, -6);
            tape.append((char) a[0]);
            return tape.length();
        }
        int size = tape.length();
        String text = tape.toString();
        tape = new StringBuilder();
        if (name.equals("wipe")) {
            return size;
        }
        World draft = world.twin();
        try {
            int many = new Reading(text, draft).statements();
            // shelves hold bars themselves here, and must go on with the bars that have taken their places
            become(draft);
            return many;
        } catch (Fault fault) {
            refusals[0]++;
            return -20 - fault.place;
        }
    }

    private void become(World other) {
        for (int s = 0; s < 8; s++) {
            if (shelves[s] instanceof Rod) {
                int bar = world.rods.indexOf(shelves[s]);
                shelves[s] = bar < other.rods.size() ? other.rods.get(bar) : null;
            }
        }
        world = other;
    }

    private static final class Reading {
        private final ArrayDeque<Token> tokens = new ArrayDeque<>();
        private final World draft;

        Reading(String text, World draft) {
            this.draft = draft;
            Matcher m = Pattern.compile("[a-z]+|[0-9]+|[^ ]", Pattern.DOTALL).matcher(text);
            while (m.find()) {
                tokens.add(new Token(m.group(), m.start()));
            }
            tokens.add(new Token("", text.length()));
        }

        int statements() {
            int many = 0;
            Token then;
            do {
                statement();
                many++;
                then = tokens.remove();
            } while (then.text.equals(";"));
            if (!then.text.isEmpty()) {
                throw new Fault(then.place);
            }
            return many;
        }

        private static void fit(boolean so, Token token) {
            if (!so) {
                throw new Fault(token.place);
            }
        }

        private Token number(int least, int most) {
            Token token = tokens.remove();
            fit(token.text.matches("[0-9]{1,4}"), token);
            fit(in(Integer.parseInt(token.text), least, most), token);
            return token;
        }

        private int value(int least, int most) {
            return Integer.parseInt(number(least, most).text);
        }

        private Rod rod() {
            return draft.rods.get(value(0, draft.rods.size() - 1));
        }

        private void statement() {
            Token word = tokens.remove();
            switch (word.text) {
                case "bar":
                    fit(draft.rods.size() < 4, word);
                    int kind = value(0, 5);
                    Rod fresh = new Rod(kind, value(1, 10));
                    draft.rods.add(fresh);
                    if (tokens.peek().text.equals("on")) {
                        tokens.remove();
                        fresh.putOn(value(0, fresh.sets() - 1));
                    }
                    break;
                case "stuck":
                    Rod rod = rod();
                    rod.stick(value(0, rod.sets() - 1));
                    break;
                case "table":
                    Token bar = number(0, draft.rods.size() - 1);
                    Rod told = draft.rods.get(Integer.parseInt(bar.text));
                    fit(told.kind == 5, bar);
                    Ring ring = told.rings.get(value(0, told.rings.size() - 1));
                    ring.must = value(0, told.sets() - 1);
                    ring.not = value(0, told.sets() - 1);
                    break;
                case "minutes":
                    int which = value(0, 9);
                    draft.minutes[which] = value(0, 99);
                    break;
                case "move":
                    Rod moving = rod();
                    Token v = number(0, 9999);
                    int move = Integer.parseInt(v.text);
                    fit(moving.may(moving.on(), move), v);
                    draft.make(moving, move);
                    break;
                default:
                    throw new Fault(word.place);
            }
        }
    }

    private long moving(String name, long[] a) {
        Rod rod;
        List<Integer> way;
        switch (name) {
            case "may":
                rod = rod(a[0]);
                good(rod.isMove(a[1]));
                return rod.may(rod.on(), a[1]) ? 1 : 0;
            case "moves":
                rod = rod(a[0]);
                return rod.legal(rod.on()).stream().mapToInt(m -> 1 << m).sum();
            case "move":
                rod = rod(a[0]);
                good(rod.isMove(a[1]));
                need(rod.may(rod.on(), a[1]), -5);
                world.make(rod, (int) a[1]);
                return rod.on();
            case "fewest":
                rod = rod(a[0]);
                way = rod.way(rod.on(), set(rod, a[1]));
                return way == null ? NONE : way.size();
            case "way":
                rod = rod(a[0]);
                int to = set(rod, a[1]);
                good(a[2] >= 0);
                way = rod.way(rod.on(), to);
                need(way != null && a[2] < way.size(), -5);
                return way.get((int) a[2]);
            case "between":
                rod = rod(a[0]);
                way = rod.way(set(rod, a[1]), set(rod, a[2]));
                return way == null ? NONE : way.size();
            case "place":
                good(in(a[0], 0, (1L << 60) - 1));
                return place(a[0]);
            case "setOf":
                good(in(a[0], 0, (1L << 60) - 1));
                return setAt(a[0]);
            case "time":
                rod = rod(a[0]);
                way = rod.way(rod.on(), set(rod, a[1]));
                return way == null ? NONE : way.stream().mapToInt(world::minutesOf).sum();
            case "bell":
                rod = rod(a[0]);
                return bell(rod, ring(rod, a[1]), a[2]);
            default:
                good(in(a[0], 0, 99999));
                for (int n = 1; n <= 10; n++) {
                    if (new Rod(1, n).way((1 << n) - 1, 0).stream().mapToInt(world::minutesOf).sum() >= a[0]) {
                        return n;
                    }
                }
                return NONE;
        }
    }

    private long bell(Rod rod, int ring, long k) {
        good(k >= 1);
        List<Integer> way = rod.way(rod.on(), 0);
        if (way == null) {
            return NONE;
        }
        long left = k;
        long minute = 0;
        for (int move : way) {
            minute += world.minutesOf(move);
            if (move == ring || (move == BOTH && ring <= 1)) {
                left--;
                if (left == 0) {
                    return minute;
                }
            }
        }
        return NONE;
    }

    private static Set<List<Integer>> pairs(Rod rod, Set<Integer> sets) {
        Set<List<Integer>> pairs = new HashSet<>();
        for (int set : sets) {
            for (int move : rod.legal(set)) {
                int other = after(set, move);
                if (sets.contains(other)) {
                    pairs.add(List.of(Math.min(set, other), Math.max(set, other)));
                }
            }
        }
        return pairs;
    }

    private static int root(int[] up, int at) {
        int r = at;
        while (up[r] != r) {
            r = up[r];
        }
        return r;
    }

    private long comes(String name, long[] a) {
        if (name.equals("save")) {
            good(in(a[0], 1, 10));
            int all = (1 << (int) a[0]) - 1;
            return new Rod(1, (int) a[0]).way(all, 0).size() - new Rod(2, (int) a[0]).way(all, 0).size();
        }
        Rod rod = rod(a[0]);
        if (name.equals("parts")) {
            return parts(rod);
        }
        if (name.equals("longest")) {
            need(rod.rings.size() <= 6, -5);
            return longest(rod);
        }
        if (name.equals("luck")) {
            need(rod.kind == 1 && rod.stuck() == 0, -5);
            long place = place(rod.on());
            return place * (2L * (rod.sets() - 1) - place);
        }
        if (name.equals("chance")) {
            int aim = set(rod, a[1]);
            good(in(a[2], 0, 20));
            return chance(rod, aim, (int) a[2]);
        }
        Map<Integer, List<Integer>> ways = rod.waysFrom(rod.on());
        switch (name) {
            case "reach":
                return ways.size();
            case "farthest":
                good(in(a[1], 0, 1));
                int best = NONE;
                int set = NONE;
                for (Map.Entry<Integer, List<Integer>> e : ways.entrySet()) {
                    if (e.getValue().size() > best) {
                        best = e.getValue().size();
                        set = e.getKey();
                    }
                }
                return a[1] == 0 ? set : best;
            case "shape":
                return shape(rod, ways.keySet());
            case "movable":
                Set<Integer> rings = new TreeSet<>();
                for (int s : ways.keySet()) {
                    for (int move : rod.legal(s)) {
                        rings.addAll(move == BOTH ? List.of(0, 1) : List.of(move));
                    }
                }
                return rings.stream().mapToInt(r -> 1 << r).sum();
            case "ends":
                return ways.keySet().stream().filter(s -> rod.legal(s).size() == 1).count();
            default:
                int ring = ring(rod, a[1]);
                int least = NONE;
                for (Map.Entry<Integer, List<Integer>> e : ways.entrySet()) {
                    List<Integer> legal = rod.legal(e.getKey());
                    if (legal.contains(ring) || (ring < 2 && legal.contains(BOTH))) {
                        int moves = e.getValue().size() + 1;
                        least = least == NONE ? moves : Math.min(least, moves);
                    }
                }
                return least;
        }
    }

    private static long shape(Rod rod, Set<Integer> sets) {
        Set<List<Integer>> pairs = pairs(rod, sets);
        if (pairs.size() >= sets.size()) {
            return 2;
        }
        Map<Integer, Integer> many = new HashMap<>();
        for (List<Integer> pair : pairs) {
            many.merge(pair.get(0), 1, Integer::sum);
            many.merge(pair.get(1), 1, Integer::sum);
        }
        return many.values().stream().allMatch(m -> m <= 2) ? 0 : 1;
    }

    private static long parts(Rod rod) {
        int[] up = new int[rod.sets()];
        Arrays.setAll(up, i -> i);
        int parts = up.length;
        for (int set = 0; set < up.length; set++) {
            for (int move : rod.legal(set)) {
                int p = root(up, set);
                int q = root(up, after(set, move));
                if (p != q) {
                    up[p] = q;
                    parts--;
                }
            }
        }
        return parts;
    }

    private static long longest(Rod rod) {
        int n = rod.sets();
        int[][] far = new int[n][n];
        for (int i = 0; i < n; i++) {
            Arrays.fill(far[i], 9999);
            far[i][i] = 0;
            for (int move : rod.legal(i)) {
                far[i][after(i, move)] = 1;
            }
        }
        for (int k = 0; k < n; k++) {
            for (int i = 0; i < n; i++) {
                for (int j = 0; j < n; j++) {
                    far[i][j] = Math.min(far[i][j], far[i][k] + far[k][j]);
                }
            }
        }
        return Arrays.stream(far).flatMapToInt(Arrays::stream).filter(f -> f < 9999).max().getAsInt();
    }

    private static long chance(Rod rod, int aim, int moves) {
        Map<Integer, Integer> at = new HashMap<>();
        at.put(rod.on(), 1000000);
        for (int k = 0; k < moves; k++) {
            Map<Integer, Integer> then = new HashMap<>();
            for (Map.Entry<Integer, Integer> e : at.entrySet()) {
                List<Integer> legal = rod.legal(e.getKey());
                if (legal.isEmpty()) {
                    then.merge(e.getKey(), e.getValue(), Integer::sum);
                }
                for (int move : legal) {
                    then.merge(after(e.getKey(), move), e.getValue() / legal.size(), Integer::sum);
                }
            }
            at = then;
        }
        return at.getOrDefault(aim, 0);
    }

    private long rows(String name, long[] a) {
        boolean ofMoves = name.equals("judge") || name.equals("behind") || name.equals("moved");
        good(in(a[0], 0, 7) && in(a[1], ofMoves ? 0 : 1, ofMoves ? 40 : 10));
        Rod rod = rod(a[2]);
        Object held = shelves[(int) a[0]];
        need(!(held instanceof Rod), -3);
        need(held != null, -4);
        good(length(held) >= a[1]);
        long[] told = new long[(int) a[1]];
        for (int i = 0; i < told.length; i++) {
            told[i] = cell(held, i);
        }
        return ofMoves ? movesTold(name, rod, told) : picturesTold(name, rod, told);
    }

    private long picturesTold(String name, Rod rod, long[] told) {
        for (long picture : told) {
            set(rod, picture);
        }
        int ahead = rod.on();
        int total = 0;
        for (int i = 0; i < told.length; i++) {
            int picture = (int) told[i];
            List<Integer> way = rod.way(ahead, picture);
            if (way == null) {
                if (!name.equals("once")) {
                    return name.equals("broken") ? i : NONE;
                }
                for (int ring = 0; ring < rod.rings.size(); ring++) {
                    if (rod.way(after(ahead, ring), picture) != null) {
                        return ring;
                    }
                }
                return NONE;
            }
            total += way.size();
            ahead = picture;
        }
        need(!name.equals("once"), -5);
        return name.equals("broken") ? NONE : total;
    }

    private long movesTold(String name, Rod rod, long[] told) {
        int set = rod.on();
        for (int i = 0; i < told.length; i++) {
            if (!rod.may(set, told[i])) {
                need(name.equals("judge"), -5);
                return i;
            }
            set = after(set, (int) told[i]);
        }
        if (name.equals("judge")) {
            return NONE;
        }
        if (name.equals("moved")) {
            rod.putOn(set);
            world.moved += told.length;
        }
        return set;
    }

    private static boolean wins(Rod rod, int set, Set<Integer> been) {
        for (int move : rod.legal(set)) {
            if (winsBy(rod, set, move, been)) {
                return true;
            }
        }
        return false;
    }

    private static boolean winsBy(Rod rod, int set, int move, Set<Integer> been) {
        int other = after(set, move);
        if (been.contains(other)) {
            return false;
        }
        Set<Integer> then = new HashSet<>(been);
        then.add(other);
        return !wins(rod, other, then);
    }

    private long rest(String name, long[] a) {
        Rod rod;
        switch (name) {
            case "game":
                rod = rod(a[0]);
                good(in(a[1], 0, 1));
                need(rod.rings.size() <= 3, -5);
                Set<Integer> been = Set.of(rod.on());
                if (a[1] == 0) {
                    return wins(rod, rod.on(), been) ? 1 : 0;
                }
                for (int move : rod.legal(rod.on())) {
                    if (winsBy(rod, rod.on(), move, been)) {
                        return move;
                    }
                }
                return NONE;
            case "goes":
                rod = rod(a[0]);
                int to = set(rod, a[1]);
                good(in(a[2], 1, 60));
                List<Integer> way = rod.way(rod.on(), to);
                need(way != null, -5);
                int many = (int) Math.min(a[2], way.size());
                for (int move : way.subList(0, many)) {
                    world.make(rod, move);
                }
                return many;
            case "play":
                rod = rod(a[0]);
                good(in(a[1], 1, 60));
                int made = 0;
                while (made < a[1] && !rod.legal(rod.on()).isEmpty()) {
                    List<Integer> legal = rod.legal(rod.on());
                    world.seed = world.seed * 1103515245 + 12345;
                    int upper = (int) ((world.seed & 0xFFFFFFFFL) / 65536);
                    world.make(rod, legal.get(upper % legal.size()));
                    made++;
                }
                return made;
            case "drop":
                need(!world.rods.isEmpty(), -5);
                Rod gone = world.rods.remove(world.rods.size() - 1);
                for (int s = 0; s < 8; s++) {
                    shelves[s] = shelves[s] == gone ? null : shelves[s];
                }
                return world.rods.size();
            case "seed":
                int ahead = world.seed;
                world.seed = (int) a[0];
                return ahead;
            case "image":
                image = world.twin();
                return 1;
            case "back":
                need(image != null, -5);
                become(image.twin());
                return 1;
            default:
                return status(a[0]);
        }
    }

    private long status(long what) {
        if (in(what, 12, 16)) {
            return refusals[(int) what - 12];
        }
        switch ((int) what) {
            case 0:
                return world.rods.size();
            case 1:
                return world.rods.stream().mapToInt(r -> Integer.bitCount(r.on())).sum();
            case 2:
                return world.rods.stream().mapToInt(r -> Integer.bitCount(r.stuck())).sum();
            case 3:
                return world.moved;
            case 4:
                return Arrays.stream(world.minutes).sum();
            case 5:
                return tape.length();
            case 6:
                return world.seed;
            case 7:
                return Arrays.stream(shelves).filter(h -> h != null).count();
            default:
                return NONE;
        }
    }
}
